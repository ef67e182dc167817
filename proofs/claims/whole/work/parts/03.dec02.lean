theorem dX9_person_84 : decode cX9_person 84 = .ok (.aload_n 0, 1) := by decide +kernel
theorem dX9_person_85 : decode cX9_person 85 = .ok (.getfield 10, 3) := by decide +kernel
theorem dX9_person_88 : decode cX9_person 88 = .ok (.getfield 180, 3) := by decide +kernel
theorem dX9_person_91 : decode cX9_person 91 = .ok (.iload_n 1, 1) := by decide +kernel
theorem dX9_person_92 : decode cX9_person 92 = .ok (.invokestatic 165, 3) := by decide +kernel
theorem dX9_person_95 : decode cX9_person 95 = .ok (.ireturn, 1) := by decide +kernel
theorem dX9_person_96 : decode cX9_person 96 = .ok (.aload_n 0, 1) := by decide +kernel
theorem dX9_person_97 : decode cX9_person 97 = .ok (.getfield 26, 3) := by decide +kernel
theorem dX9_person_100 : decode cX9_person 100 = .ok (.getfield 183, 3) := by decide +kernel
theorem dX9_person_103 : decode cX9_person 103 = .ok (.iload_n 1, 1) := by decide +kernel
theorem dX9_person_104 : decode cX9_person 104 = .ok (.invokestatic 165, 3) := by decide +kernel
theorem dX9_person_107 : decode cX9_person 107 = .ok (.ireturn, 1) := by decide +kernel
theorem dX9_person_108 : decode cX9_person 108 = .ok (.aload_n 0, 1) := by decide +kernel
theorem dX9_person_109 : decode cX9_person 109 = .ok (.getfield 10, 3) := by decide +kernel
theorem dX9_person_112 : decode cX9_person 112 = .ok (.getfield 186, 3) := by decide +kernel
theorem dX9_person_115 : decode cX9_person 115 = .ok (.iload_n 1, 1) := by decide +kernel
theorem dX9_person_116 : decode cX9_person 116 = .ok (.invokestatic 165, 3) := by decide +kernel
theorem dX9_person_119 : decode cX9_person 119 = .ok (.ireturn, 1) := by decide +kernel
theorem dX9_person_120 : decode cX9_person 120 = .ok (.aload_n 0, 1) := by decide +kernel
theorem dX9_person_121 : decode cX9_person 121 = .ok (.getfield 26, 3) := by decide +kernel
theorem dX9_person_124 : decode cX9_person 124 = .ok (.getfield 189, 3) := by decide +kernel
theorem dX9_person_127 : decode cX9_person 127 = .ok (.iload_n 1, 1) := by decide +kernel
theorem dX9_person_128 : decode cX9_person 128 = .ok (.invokestatic 165, 3) := by decide +kernel
theorem dX9_person_131 : decode cX9_person 131 = .ok (.ireturn, 1) := by decide +kernel
theorem dX9_person_132 : decode cX9_person 132 = .ok (.aload_n 0, 1) := by decide +kernel
theorem dX9_person_133 : decode cX9_person 133 = .ok (.getfield 26, 3) := by decide +kernel
theorem dX9_person_136 : decode cX9_person 136 = .ok (.getfield 192, 3) := by decide +kernel
theorem dX9_person_139 : decode cX9_person 139 = .ok (.iload_n 1, 1) := by decide +kernel
theorem dX9_person_140 : decode cX9_person 140 = .ok (.invokestatic 165, 3) := by decide +kernel
theorem dX9_person_143 : decode cX9_person 143 = .ok (.ireturn, 1) := by decide +kernel
theorem dX9_person_144 : decode cX9_person 144 = .ok (.aload_n 0, 1) := by decide +kernel
theorem dX9_person_145 : decode cX9_person 145 = .ok (.getfield 26, 3) := by decide +kernel
theorem dX9_person_148 : decode cX9_person 148 = .ok (.getfield 195, 3) := by decide +kernel
theorem dX9_person_151 : decode cX9_person 151 = .ok (.iload_n 1, 1) := by decide +kernel
theorem dX9_person_152 : decode cX9_person 152 = .ok (.invokestatic 165, 3) := by decide +kernel
theorem dX9_person_155 : decode cX9_person 155 = .ok (.ireturn, 1) := by decide +kernel
theorem dX9_person_156 : decode cX9_person 156 = .ok (.ldc 73, 2) := by decide +kernel
theorem dX9_person_158 : decode cX9_person 158 = .ok (.ireturn, 1) := by decide +kernel
theorem dX9_log_0 : decode cX9_log 0 = .ok (.aload_n 0, 1) := by decide +kernel
theorem dX9_log_1 : decode cX9_log 1 = .ok (.iload_n 1, 1) := by decide +kernel
theorem dX9_log_2 : decode cX9_log 2 = .ok (.iload_n 2, 1) := by decide +kernel
theorem dX9_log_3 : decode cX9_log 3 = .ok (.invokevirtual 198, 3) := by decide +kernel
theorem dX9_log_6 : decode cX9_log 6 = .ok (.istore_n 3, 1) := by decide +kernel
theorem dX9_log_7 : decode cX9_log 7 = .ok (.iload_n 3, 1) := by decide +kernel
theorem dX9_log_8 : decode cX9_log 8 = .ok (.ifCond .eq 5, 3) := by decide +kernel
theorem dX9_log_11 : decode cX9_log 11 = .ok (.iload_n 3, 1) := by decide +kernel
theorem dX9_log_12 : decode cX9_log 12 = .ok (.ireturn, 1) := by decide +kernel
theorem dX9_log_13 : decode cX9_log 13 = .ok (.aload_n 0, 1) := by decide +kernel
theorem dX9_log_14 : decode cX9_log 14 = .ok (.getfield 26, 3) := by decide +kernel
theorem dX9_log_17 : decode cX9_log 17 = .ok (.iload_n 1, 1) := by decide +kernel
theorem dX9_log_18 : decode cX9_log 18 = .ok (.iload_n 2, 1) := by decide +kernel
theorem dX9_log_19 : decode cX9_log 19 = .ok (.invokevirtual 202, 3) := by decide +kernel
theorem dX9_log_22 : decode cX9_log 22 = .ok (.aload_n 0, 1) := by decide +kernel
theorem dX9_log_23 : decode cX9_log 23 = .ok (.getfield 33, 3) := by decide +kernel
theorem dX9_log_26 : decode cX9_log 26 = .ok (.invokevirtual 105, 3) := by decide +kernel
theorem dX9_log_29 : decode cX9_log 29 = .ok (.iload_n 1, 1) := by decide +kernel
theorem dX9_log_30 : decode cX9_log 30 = .ok (.ireturn, 1) := by decide +kernel
theorem dX9_stroke_0 : decode cX9_stroke 0 = .ok (.aload_n 0, 1) := by decide +kernel
theorem dX9_stroke_1 : decode cX9_stroke 1 = .ok (.iload_n 1, 1) := by decide +kernel
theorem dX9_stroke_2 : decode cX9_stroke 2 = .ok (.invokevirtual 206, 3) := by decide +kernel
theorem dX9_stroke_5 : decode cX9_stroke 5 = .ok (.istore_n 2, 1) := by decide +kernel
theorem dX9_stroke_6 : decode cX9_stroke 6 = .ok (.iload_n 2, 1) := by decide +kernel
theorem dX9_stroke_7 : decode cX9_stroke 7 = .ok (.ifCond .eq 5, 3) := by decide +kernel
theorem dX9_stroke_10 : decode cX9_stroke 10 = .ok (.iload_n 2, 1) := by decide +kernel
theorem dX9_stroke_11 : decode cX9_stroke 11 = .ok (.ireturn, 1) := by decide +kernel
theorem dX9_stroke_12 : decode cX9_stroke 12 = .ok (.aload_n 0, 1) := by decide +kernel
theorem dX9_stroke_13 : decode cX9_stroke 13 = .ok (.getfield 33, 3) := by decide +kernel
theorem dX9_stroke_16 : decode cX9_stroke 16 = .ok (.aload_n 0, 1) := by decide +kernel
theorem dX9_stroke_17 : decode cX9_stroke 17 = .ok (.getfield 26, 3) := by decide +kernel
theorem dX9_stroke_20 : decode cX9_stroke 20 = .ok (.invokevirtual 210, 3) := by decide +kernel
theorem dX9_stroke_23 : decode cX9_stroke 23 = .ok (.iconst 0, 1) := by decide +kernel
theorem dX9_stroke_24 : decode cX9_stroke 24 = .ok (.istore_n 3, 1) := by decide +kernel
theorem dX9_stroke_25 : decode cX9_stroke 25 = .ok (.iconst 0, 1) := by decide +kernel
theorem dX9_stroke_26 : decode cX9_stroke 26 = .ok (.istore 4, 2) := by decide +kernel
theorem dX9_stroke_28 : decode cX9_stroke 28 = .ok (.iload 4, 2) := by decide +kernel
theorem dX9_stroke_30 : decode cX9_stroke 30 = .ok (.iload_n 1, 1) := by decide +kernel
theorem dX9_stroke_31 : decode cX9_stroke 31 = .ok (.if_icmp .ge 37, 3) := by decide +kernel
theorem dX9_stroke_34 : decode cX9_stroke 34 = .ok (.aload_n 0, 1) := by decide +kernel
theorem dX9_stroke_35 : decode cX9_stroke 35 = .ok (.getfield 26, 3) := by decide +kernel
theorem dX9_stroke_38 : decode cX9_stroke 38 = .ok (.aload_n 0, 1) := by decide +kernel
theorem dX9_stroke_39 : decode cX9_stroke 39 = .ok (.getfield 10, 3) := by decide +kernel
theorem dX9_stroke_42 : decode cX9_stroke 42 = .ok (.invokevirtual 155, 3) := by decide +kernel
theorem dX9_stroke_45 : decode cX9_stroke 45 = .ok (.ifCond .ne 23, 3) := by decide +kernel
theorem dX9_stroke_48 : decode cX9_stroke 48 = .ok (.iload_n 3, 1) := by decide +kernel
theorem dX9_stroke_49 : decode cX9_stroke 49 = .ok (.aload_n 0, 1) := by decide +kernel
theorem dX9_stroke_50 : decode cX9_stroke 50 = .ok (.getfield 26, 3) := by decide +kernel
theorem dX9_stroke_53 : decode cX9_stroke 53 = .ok (.aload_n 0, 1) := by decide +kernel
theorem dX9_stroke_54 : decode cX9_stroke 54 = .ok (.getfield 10, 3) := by decide +kernel
theorem dX9_stroke_57 : decode cX9_stroke 57 = .ok (.invokevirtual 214, 3) := by decide +kernel
theorem dX9_stroke_60 : decode cX9_stroke 60 = .ok (.iadd, 1) := by decide +kernel
theorem dX9_stroke_61 : decode cX9_stroke 61 = .ok (.istore_n 3, 1) := by decide +kernel
theorem dX9_stroke_62 : decode cX9_stroke 62 = .ok (.iinc 4 1, 3) := by decide +kernel
theorem dX9_stroke_65 : decode cX9_stroke 65 = .ok (.goto (-37), 3) := by decide +kernel
theorem dX9_stroke_68 : decode cX9_stroke 68 = .ok (.iload_n 3, 1) := by decide +kernel
theorem dX9_stroke_69 : decode cX9_stroke 69 = .ok (.ireturn, 1) := by decide +kernel
theorem dX9_rest_0 : decode cX9_rest 0 = .ok (.aload_n 0, 1) := by decide +kernel
theorem dX9_rest_1 : decode cX9_rest 1 = .ok (.iload_n 1, 1) := by decide +kernel
theorem dX9_rest_2 : decode cX9_rest 2 = .ok (.invokevirtual 206, 3) := by decide +kernel
theorem dX9_rest_5 : decode cX9_rest 5 = .ok (.istore_n 2, 1) := by decide +kernel
theorem dX9_rest_6 : decode cX9_rest 6 = .ok (.iload_n 2, 1) := by decide +kernel
theorem dX9_rest_7 : decode cX9_rest 7 = .ok (.ifCond .eq 5, 3) := by decide +kernel
theorem dX9_rest_10 : decode cX9_rest 10 = .ok (.iload_n 2, 1) := by decide +kernel
theorem dX9_rest_11 : decode cX9_rest 11 = .ok (.ireturn, 1) := by decide +kernel
theorem dX9_rest_12 : decode cX9_rest 12 = .ok (.aload_n 0, 1) := by decide +kernel
theorem dX9_rest_13 : decode cX9_rest 13 = .ok (.getfield 33, 3) := by decide +kernel
theorem dX9_rest_16 : decode cX9_rest 16 = .ok (.aload_n 0, 1) := by decide +kernel
theorem dX9_rest_17 : decode cX9_rest 17 = .ok (.getfield 26, 3) := by decide +kernel
theorem dX9_rest_20 : decode cX9_rest 20 = .ok (.invokevirtual 210, 3) := by decide +kernel
theorem dX9_rest_23 : decode cX9_rest 23 = .ok (.aload_n 0, 1) := by decide +kernel
theorem dX9_rest_24 : decode cX9_rest 24 = .ok (.getfield 26, 3) := by decide +kernel
theorem dX9_rest_27 : decode cX9_rest 27 = .ok (.iload_n 1, 1) := by decide +kernel
theorem dX9_rest_28 : decode cX9_rest 28 = .ok (.invokevirtual 218, 3) := by decide +kernel
theorem dX9_rest_31 : decode cX9_rest 31 = .ok (.aload_n 0, 1) := by decide +kernel
theorem dX9_rest_32 : decode cX9_rest 32 = .ok (.getfield 26, 3) := by decide +kernel
theorem dX9_rest_35 : decode cX9_rest 35 = .ok (.getfield 131, 3) := by decide +kernel
theorem dX9_rest_38 : decode cX9_rest 38 = .ok (.ireturn, 1) := by decide +kernel
theorem dX9_sides_0 : decode cX9_sides 0 = .ok (.aload_n 0, 1) := by decide +kernel
theorem dX9_sides_1 : decode cX9_sides 1 = .ok (.getfield 26, 3) := by decide +kernel
theorem dX9_sides_4 : decode cX9_sides 4 = .ok (.invokevirtual 221, 3) := by decide +kernel
theorem dX9_sides_7 : decode cX9_sides 7 = .ok (.ifCond .ne 6, 3) := by decide +kernel
theorem dX9_sides_10 : decode cX9_sides 10 = .ok (.ldc 225, 2) := by decide +kernel
theorem dX9_sides_12 : decode cX9_sides 12 = .ok (.ireturn, 1) := by decide +kernel
theorem dX9_sides_13 : decode cX9_sides 13 = .ok (.aload_n 0, 1) := by decide +kernel
theorem dX9_sides_14 : decode cX9_sides 14 = .ok (.getfield 33, 3) := by decide +kernel
theorem dX9_sides_17 : decode cX9_sides 17 = .ok (.aload_n 0, 1) := by decide +kernel
theorem dX9_sides_18 : decode cX9_sides 18 = .ok (.getfield 26, 3) := by decide +kernel
theorem dX9_sides_21 : decode cX9_sides 21 = .ok (.invokevirtual 210, 3) := by decide +kernel
theorem dX9_sides_24 : decode cX9_sides 24 = .ok (.aload_n 0, 1) := by decide +kernel
theorem dX9_sides_25 : decode cX9_sides 25 = .ok (.getfield 26, 3) := by decide +kernel
theorem dX9_sides_28 : decode cX9_sides 28 = .ok (.invokevirtual 226, 3) := by decide +kernel
theorem dX9_sides_31 : decode cX9_sides 31 = .ok (.aload_n 0, 1) := by decide +kernel
theorem dX9_sides_32 : decode cX9_sides 32 = .ok (.getfield 26, 3) := by decide +kernel
theorem dX9_sides_35 : decode cX9_sides 35 = .ok (.getfield 119, 3) := by decide +kernel
theorem dX9_sides_38 : decode cX9_sides 38 = .ok (.ireturn, 1) := by decide +kernel
theorem dX9_oil_0 : decode cX9_oil 0 = .ok (.aload_n 0, 1) := by decide +kernel
theorem dX9_oil_1 : decode cX9_oil 1 = .ok (.getfield 26, 3) := by decide +kernel
theorem dX9_oil_4 : decode cX9_oil 4 = .ok (.invokevirtual 221, 3) := by decide +kernel
theorem dX9_oil_7 : decode cX9_oil 7 = .ok (.ifCond .ne 6, 3) := by decide +kernel
theorem dX9_oil_10 : decode cX9_oil 10 = .ok (.ldc 225, 2) := by decide +kernel
theorem dX9_oil_12 : decode cX9_oil 12 = .ok (.ireturn, 1) := by decide +kernel
theorem dX9_oil_13 : decode cX9_oil 13 = .ok (.aload_n 0, 1) := by decide +kernel
theorem dX9_oil_14 : decode cX9_oil 14 = .ok (.getfield 26, 3) := by decide +kernel
theorem dX9_oil_17 : decode cX9_oil 17 = .ok (.getfield 137, 3) := by decide +kernel
theorem dX9_oil_20 : decode cX9_oil 20 = .ok (.istore_n 1, 1) := by decide +kernel
theorem dX9_oil_21 : decode cX9_oil 21 = .ok (.iload_n 1, 1) := by decide +kernel
theorem dX9_oil_22 : decode cX9_oil 22 = .ok (.ifCond .eq 22, 3) := by decide +kernel
theorem dX9_oil_25 : decode cX9_oil 25 = .ok (.aload_n 0, 1) := by decide +kernel
theorem dX9_oil_26 : decode cX9_oil 26 = .ok (.getfield 33, 3) := by decide +kernel
theorem dX9_oil_29 : decode cX9_oil 29 = .ok (.aload_n 0, 1) := by decide +kernel
theorem dX9_oil_30 : decode cX9_oil 30 = .ok (.getfield 26, 3) := by decide +kernel
theorem dX9_oil_33 : decode cX9_oil 33 = .ok (.invokevirtual 210, 3) := by decide +kernel
theorem dX9_oil_36 : decode cX9_oil 36 = .ok (.aload_n 0, 1) := by decide +kernel
theorem dX9_oil_37 : decode cX9_oil 37 = .ok (.getfield 26, 3) := by decide +kernel
theorem dX9_oil_40 : decode cX9_oil 40 = .ok (.iconst 0, 1) := by decide +kernel
theorem dX9_oil_41 : decode cX9_oil 41 = .ok (.putfield 137, 3) := by decide +kernel
theorem dX9_oil_44 : decode cX9_oil 44 = .ok (.iload_n 1, 1) := by decide +kernel
theorem dX9_oil_45 : decode cX9_oil 45 = .ok (.ireturn, 1) := by decide +kernel
theorem dX9_wedge_0 : decode cX9_wedge 0 = .ok (.aload_n 0, 1) := by decide +kernel
theorem dX9_wedge_1 : decode cX9_wedge 1 = .ok (.getfield 26, 3) := by decide +kernel
theorem dX9_wedge_4 : decode cX9_wedge 4 = .ok (.invokevirtual 221, 3) := by decide +kernel
theorem dX9_wedge_7 : decode cX9_wedge 7 = .ok (.ifCond .eq 13, 3) := by decide +kernel
theorem dX9_wedge_10 : decode cX9_wedge 10 = .ok (.aload_n 0, 1) := by decide +kernel
theorem dX9_wedge_11 : decode cX9_wedge 11 = .ok (.getfield 26, 3) := by decide +kernel
theorem dX9_wedge_14 : decode cX9_wedge 14 = .ok (.getfield 140, 3) := by decide +kernel
theorem dX9_wedge_17 : decode cX9_wedge 17 = .ok (.ifCond .eq 6, 3) := by decide +kernel
theorem dX9_wedge_20 : decode cX9_wedge 20 = .ok (.ldc 225, 2) := by decide +kernel
theorem dX9_wedge_22 : decode cX9_wedge 22 = .ok (.ireturn, 1) := by decide +kernel
theorem dX9_wedge_23 : decode cX9_wedge 23 = .ok (.aload_n 0, 1) := by decide +kernel
theorem dX9_wedge_24 : decode cX9_wedge 24 = .ok (.getfield 33, 3) := by decide +kernel
theorem dX9_wedge_27 : decode cX9_wedge 27 = .ok (.aload_n 0, 1) := by decide +kernel
theorem dX9_wedge_28 : decode cX9_wedge 28 = .ok (.getfield 26, 3) := by decide +kernel
theorem dX9_wedge_31 : decode cX9_wedge 31 = .ok (.invokevirtual 210, 3) := by decide +kernel
theorem dX9_wedge_34 : decode cX9_wedge 34 = .ok (.aload_n 0, 1) := by decide +kernel
theorem dX9_wedge_35 : decode cX9_wedge 35 = .ok (.getfield 26, 3) := by decide +kernel
theorem dX9_wedge_38 : decode cX9_wedge 38 = .ok (.iconst 1, 1) := by decide +kernel
theorem dX9_wedge_39 : decode cX9_wedge 39 = .ok (.putfield 140, 3) := by decide +kernel
theorem dX9_wedge_42 : decode cX9_wedge 42 = .ok (.aload_n 0, 1) := by decide +kernel
theorem dX9_wedge_43 : decode cX9_wedge 43 = .ok (.getfield 26, 3) := by decide +kernel
theorem dX9_wedge_46 : decode cX9_wedge 46 = .ok (.dup, 1) := by decide +kernel
theorem dX9_wedge_47 : decode cX9_wedge 47 = .ok (.getfield 131, 3) := by decide +kernel
theorem dX9_wedge_50 : decode cX9_wedge 50 = .ok (.iconst 3, 1) := by decide +kernel
theorem dX9_wedge_51 : decode cX9_wedge 51 = .ok (.iadd, 1) := by decide +kernel
theorem dX9_wedge_52 : decode cX9_wedge 52 = .ok (.putfield 131, 3) := by decide +kernel
theorem dX9_wedge_55 : decode cX9_wedge 55 = .ok (.aload_n 0, 1) := by decide +kernel
theorem dX9_wedge_56 : decode cX9_wedge 56 = .ok (.getfield 26, 3) := by decide +kernel
theorem dX9_wedge_59 : decode cX9_wedge 59 = .ok (.getfield 131, 3) := by decide +kernel
theorem dX9_wedge_62 : decode cX9_wedge 62 = .ok (.ireturn, 1) := by decide +kernel
theorem dX9_file_0 : decode cX9_file 0 = .ok (.aload_n 0, 1) := by decide +kernel
theorem dX9_file_1 : decode cX9_file 1 = .ok (.getfield 26, 3) := by decide +kernel
theorem dX9_file_4 : decode cX9_file 4 = .ok (.invokevirtual 221, 3) := by decide +kernel
theorem dX9_file_7 : decode cX9_file 7 = .ok (.ifCond .eq 15, 3) := by decide +kernel
theorem dX9_file_10 : decode cX9_file 10 = .ok (.aload_n 0, 1) := by decide +kernel
theorem dX9_file_11 : decode cX9_file 11 = .ok (.getfield 26, 3) := by decide +kernel
theorem dX9_file_14 : decode cX9_file 14 = .ok (.getfield 143, 3) := by decide +kernel
theorem dX9_file_17 : decode cX9_file 17 = .ok (.bipush 9, 2) := by decide +kernel
theorem dX9_file_19 : decode cX9_file 19 = .ok (.if_icmp .lt 6, 3) := by decide +kernel
theorem dX9_file_22 : decode cX9_file 22 = .ok (.ldc 225, 2) := by decide +kernel
theorem dX9_file_24 : decode cX9_file 24 = .ok (.ireturn, 1) := by decide +kernel
theorem dX9_file_25 : decode cX9_file 25 = .ok (.aload_n 0, 1) := by decide +kernel
theorem dX9_file_26 : decode cX9_file 26 = .ok (.getfield 33, 3) := by decide +kernel
theorem dX9_file_29 : decode cX9_file 29 = .ok (.aload_n 0, 1) := by decide +kernel
theorem dX9_file_30 : decode cX9_file 30 = .ok (.getfield 26, 3) := by decide +kernel
theorem dX9_file_33 : decode cX9_file 33 = .ok (.invokevirtual 210, 3) := by decide +kernel
theorem dX9_file_36 : decode cX9_file 36 = .ok (.aload_n 0, 1) := by decide +kernel
theorem dX9_file_37 : decode cX9_file 37 = .ok (.getfield 26, 3) := by decide +kernel
theorem dX9_file_40 : decode cX9_file 40 = .ok (.dup, 1) := by decide +kernel
theorem dX9_file_41 : decode cX9_file 41 = .ok (.getfield 143, 3) := by decide +kernel
theorem dX9_file_44 : decode cX9_file 44 = .ok (.iconst 1, 1) := by decide +kernel
theorem dX9_file_45 : decode cX9_file 45 = .ok (.iadd, 1) := by decide +kernel
theorem dX9_file_46 : decode cX9_file 46 = .ok (.putfield 143, 3) := by decide +kernel
theorem dX9_file_49 : decode cX9_file 49 = .ok (.aload_n 0, 1) := by decide +kernel
theorem dX9_file_50 : decode cX9_file 50 = .ok (.getfield 26, 3) := by decide +kernel
theorem dX9_file_53 : decode cX9_file 53 = .ok (.dup, 1) := by decide +kernel
theorem dX9_file_54 : decode cX9_file 54 = .ok (.getfield 131, 3) := by decide +kernel
theorem dX9_file_57 : decode cX9_file 57 = .ok (.bipush 20, 2) := by decide +kernel
theorem dX9_file_59 : decode cX9_file 59 = .ok (.iadd, 1) := by decide +kernel
theorem dX9_file_60 : decode cX9_file 60 = .ok (.putfield 131, 3) := by decide +kernel
theorem dX9_file_63 : decode cX9_file 63 = .ok (.aload_n 0, 1) := by decide +kernel
theorem dX9_file_64 : decode cX9_file 64 = .ok (.getfield 26, 3) := by decide +kernel
theorem dX9_file_67 : decode cX9_file 67 = .ok (.getfield 143, 3) := by decide +kernel
theorem dX9_file_70 : decode cX9_file 70 = .ok (.ireturn, 1) := by decide +kernel
theorem dX9_wish_0 : decode cX9_wish 0 = .ok (.aload_n 0, 1) := by decide +kernel
theorem dX9_wish_1 : decode cX9_wish 1 = .ok (.getfield 10, 3) := by decide +kernel
theorem dX9_wish_4 : decode cX9_wish 4 = .ok (.iload_n 1, 1) := by decide +kernel
theorem dX9_wish_5 : decode cX9_wish 5 = .ok (.invokevirtual 171, 3) := by decide +kernel
theorem dX9_wish_8 : decode cX9_wish 8 = .ok (.ifCond .ne 6, 3) := by decide +kernel
theorem dX9_wish_11 : decode cX9_wish 11 = .ok (.ldc 160, 2) := by decide +kernel
theorem dX9_wish_13 : decode cX9_wish 13 = .ok (.ireturn, 1) := by decide +kernel
theorem dX9_wish_14 : decode cX9_wish 14 = .ok (.iload_n 2, 1) := by decide +kernel
theorem dX9_wish_15 : decode cX9_wish 15 = .ok (.iconst 1, 1) := by decide +kernel
theorem dX9_wish_16 : decode cX9_wish 16 = .ok (.bipush 20, 2) := by decide +kernel
theorem dX9_wish_18 : decode cX9_wish 18 = .ok (.invokestatic 229, 3) := by decide +kernel
theorem dX9_wish_21 : decode cX9_wish 21 = .ok (.ifCond .eq 19, 3) := by decide +kernel
theorem dX9_wish_24 : decode cX9_wish 24 = .ok (.aload_n 0, 1) := by decide +kernel
theorem dX9_wish_25 : decode cX9_wish 25 = .ok (.aload_n 0, 1) := by decide +kernel
theorem dX9_wish_26 : decode cX9_wish 26 = .ok (.getfield 26, 3) := by decide +kernel
theorem dX9_wish_29 : decode cX9_wish 29 = .ok (.getfield 189, 3) := by decide +kernel
theorem dX9_wish_32 : decode cX9_wish 32 = .ok (.iload_n 1, 1) := by decide +kernel
theorem dX9_wish_33 : decode cX9_wish 33 = .ok (.iload_n 2, 1) := by decide +kernel
theorem dX9_wish_34 : decode cX9_wish 34 = .ok (.invokevirtual 233, 3) := by decide +kernel
theorem dX9_wish_37 : decode cX9_wish 37 = .ok (.goto 5, 3) := by decide +kernel
theorem dX9_wish_40 : decode cX9_wish 40 = .ok (.ldc 73, 2) := by decide +kernel
theorem dX9_wish_42 : decode cX9_wish 42 = .ok (.ireturn, 1) := by decide +kernel
theorem dX9_habit_0 : decode cX9_habit 0 = .ok (.aload_n 0, 1) := by decide +kernel
theorem dX9_habit_1 : decode cX9_habit 1 = .ok (.getfield 10, 3) := by decide +kernel
theorem dX9_habit_4 : decode cX9_habit 4 = .ok (.iload_n 1, 1) := by decide +kernel
theorem dX9_habit_5 : decode cX9_habit 5 = .ok (.invokevirtual 171, 3) := by decide +kernel
theorem dX9_habit_8 : decode cX9_habit 8 = .ok (.ifCond .ne 6, 3) := by decide +kernel
theorem dX9_habit_11 : decode cX9_habit 11 = .ok (.ldc 160, 2) := by decide +kernel
theorem dX9_habit_13 : decode cX9_habit 13 = .ok (.ireturn, 1) := by decide +kernel
theorem dX9_habit_14 : decode cX9_habit 14 = .ok (.iload_n 2, 1) := by decide +kernel
theorem dX9_habit_15 : decode cX9_habit 15 = .ok (.iconst 0, 1) := by decide +kernel
theorem dX9_habit_16 : decode cX9_habit 16 = .ok (.bipush 9, 2) := by decide +kernel
theorem dX9_habit_18 : decode cX9_habit 18 = .ok (.invokestatic 229, 3) := by decide +kernel
theorem dX9_habit_21 : decode cX9_habit 21 = .ok (.ifCond .eq 19, 3) := by decide +kernel
theorem dX9_habit_24 : decode cX9_habit 24 = .ok (.aload_n 0, 1) := by decide +kernel
theorem dX9_habit_25 : decode cX9_habit 25 = .ok (.aload_n 0, 1) := by decide +kernel
theorem dX9_habit_26 : decode cX9_habit 26 = .ok (.getfield 26, 3) := by decide +kernel
theorem dX9_habit_29 : decode cX9_habit 29 = .ok (.getfield 183, 3) := by decide +kernel
theorem dX9_habit_32 : decode cX9_habit 32 = .ok (.iload_n 1, 1) := by decide +kernel
theorem dX9_habit_33 : decode cX9_habit 33 = .ok (.iload_n 2, 1) := by decide +kernel
theorem dX9_habit_34 : decode cX9_habit 34 = .ok (.invokevirtual 233, 3) := by decide +kernel
theorem dX9_habit_37 : decode cX9_habit 37 = .ok (.goto 5, 3) := by decide +kernel
theorem dX9_habit_40 : decode cX9_habit 40 = .ok (.ldc 73, 2) := by decide +kernel
theorem dX9_habit_42 : decode cX9_habit 42 = .ok (.ireturn, 1) := by decide +kernel
theorem dX9_drift_0 : decode cX9_drift 0 = .ok (.aload_n 0, 1) := by decide +kernel
theorem dX9_drift_1 : decode cX9_drift 1 = .ok (.iload_n 1, 1) := by decide +kernel
theorem dX9_drift_2 : decode cX9_drift 2 = .ok (.invokevirtual 206, 3) := by decide +kernel
theorem dX9_drift_5 : decode cX9_drift 5 = .ok (.istore_n 2, 1) := by decide +kernel
theorem dX9_drift_6 : decode cX9_drift 6 = .ok (.iload_n 2, 1) := by decide +kernel
theorem dX9_drift_7 : decode cX9_drift 7 = .ok (.ifCond .eq 5, 3) := by decide +kernel
theorem dX9_drift_10 : decode cX9_drift 10 = .ok (.iload_n 2, 1) := by decide +kernel
theorem dX9_drift_11 : decode cX9_drift 11 = .ok (.ireturn, 1) := by decide +kernel
theorem dX9_drift_12 : decode cX9_drift 12 = .ok (.aload_n 0, 1) := by decide +kernel
theorem dX9_drift_13 : decode cX9_drift 13 = .ok (.getfield 33, 3) := by decide +kernel
theorem dX9_drift_16 : decode cX9_drift 16 = .ok (.aload_n 0, 1) := by decide +kernel
theorem dX9_drift_17 : decode cX9_drift 17 = .ok (.getfield 26, 3) := by decide +kernel
theorem dX9_drift_20 : decode cX9_drift 20 = .ok (.invokevirtual 210, 3) := by decide +kernel
theorem dX9_drift_23 : decode cX9_drift 23 = .ok (.iconst 0, 1) := by decide +kernel
theorem dX9_drift_24 : decode cX9_drift 24 = .ok (.istore_n 3, 1) := by decide +kernel
theorem dX9_drift_25 : decode cX9_drift 25 = .ok (.iload_n 3, 1) := by decide +kernel
theorem dX9_drift_26 : decode cX9_drift 26 = .ok (.iload_n 1, 1) := by decide +kernel
theorem dX9_drift_27 : decode cX9_drift 27 = .ok (.if_icmp .ge 27, 3) := by decide +kernel
theorem dX9_drift_30 : decode cX9_drift 30 = .ok (.aload_n 0, 1) := by decide +kernel
theorem dX9_drift_31 : decode cX9_drift 31 = .ok (.getfield 26, 3) := by decide +kernel
theorem dX9_drift_34 : decode cX9_drift 34 = .ok (.aload_n 0, 1) := by decide +kernel
theorem dX9_drift_35 : decode cX9_drift 35 = .ok (.getfield 10, 3) := by decide +kernel
theorem dX9_drift_38 : decode cX9_drift 38 = .ok (.invokevirtual 155, 3) := by decide +kernel
theorem dX9_drift_41 : decode cX9_drift 41 = .ok (.ifCond .ne 13, 3) := by decide +kernel
theorem dX9_drift_44 : decode cX9_drift 44 = .ok (.aload_n 0, 1) := by decide +kernel
theorem dX9_drift_45 : decode cX9_drift 45 = .ok (.invokevirtual 237, 3) := by decide +kernel
theorem dX9_drift_48 : decode cX9_drift 48 = .ok (.iinc 3 1, 3) := by decide +kernel
theorem dX9_drift_51 : decode cX9_drift 51 = .ok (.goto (-26), 3) := by decide +kernel
theorem dX9_drift_54 : decode cX9_drift 54 = .ok (.aload_n 0, 1) := by decide +kernel
theorem dX9_drift_55 : decode cX9_drift 55 = .ok (.getfield 26, 3) := by decide +kernel
theorem dX9_drift_58 : decode cX9_drift 58 = .ok (.getfield 128, 3) := by decide +kernel
theorem dX9_drift_61 : decode cX9_drift 61 = .ok (.ireturn, 1) := by decide +kernel
theorem dX9_undo_0 : decode cX9_undo 0 = .ok (.iload_n 1, 1) := by decide +kernel
theorem dX9_undo_1 : decode cX9_undo 1 = .ok (.iconst 1, 1) := by decide +kernel
theorem dX9_undo_2 : decode cX9_undo 2 = .ok (.bipush 30, 2) := by decide +kernel
theorem dX9_undo_4 : decode cX9_undo 4 = .ok (.invokestatic 229, 3) := by decide +kernel
theorem dX9_undo_7 : decode cX9_undo 7 = .ok (.ifCond .ne 6, 3) := by decide +kernel
theorem dX9_undo_10 : decode cX9_undo 10 = .ok (.ldc 73, 2) := by decide +kernel
theorem dX9_undo_12 : decode cX9_undo 12 = .ok (.ireturn, 1) := by decide +kernel
theorem dX9_undo_13 : decode cX9_undo 13 = .ok (.iload_n 1, 1) := by decide +kernel
theorem dX9_undo_14 : decode cX9_undo 14 = .ok (.aload_n 0, 1) := by decide +kernel
theorem dX9_undo_15 : decode cX9_undo 15 = .ok (.getfield 33, 3) := by decide +kernel
theorem dX9_undo_18 : decode cX9_undo 18 = .ok (.getfield 159, 3) := by decide +kernel
theorem dX9_undo_21 : decode cX9_undo 21 = .ok (.if_icmp .le 6, 3) := by decide +kernel
theorem dX9_undo_24 : decode cX9_undo 24 = .ok (.ldc 225, 2) := by decide +kernel
theorem dX9_undo_26 : decode cX9_undo 26 = .ok (.ireturn, 1) := by decide +kernel
theorem dX9_undo_27 : decode cX9_undo 27 = .ok (.aload_n 0, 1) := by decide +kernel
theorem dX9_undo_28 : decode cX9_undo 28 = .ok (.getfield 33, 3) := by decide +kernel
theorem dX9_undo_31 : decode cX9_undo 31 = .ok (.iload_n 1, 1) := by decide +kernel
theorem dX9_undo_32 : decode cX9_undo 32 = .ok (.aload_n 0, 1) := by decide +kernel
theorem dX9_undo_33 : decode cX9_undo 33 = .ok (.getfield 26, 3) := by decide +kernel
theorem dX9_undo_36 : decode cX9_undo 36 = .ok (.invokevirtual 240, 3) := by decide +kernel
theorem dX9_undo_39 : decode cX9_undo 39 = .ok (.aload_n 0, 1) := by decide +kernel
theorem dX9_undo_40 : decode cX9_undo 40 = .ok (.getfield 26, 3) := by decide +kernel
theorem dX9_undo_43 : decode cX9_undo 43 = .ok (.getfield 131, 3) := by decide +kernel
theorem dX9_undo_46 : decode cX9_undo 46 = .ok (.ireturn, 1) := by decide +kernel
theorem dX9_toGo_0 : decode cX9_toGo 0 = .ok (.aload_n 0, 1) := by decide +kernel
theorem dX9_toGo_1 : decode cX9_toGo 1 = .ok (.getfield 26, 3) := by decide +kernel
theorem dX9_toGo_4 : decode cX9_toGo 4 = .ok (.invokevirtual 221, 3) := by decide +kernel
theorem dX9_toGo_7 : decode cX9_toGo 7 = .ok (.ifCond .eq 24, 3) := by decide +kernel
theorem dX9_toGo_10 : decode cX9_toGo 10 = .ok (.aload_n 0, 1) := by decide +kernel
theorem dX9_toGo_11 : decode cX9_toGo 11 = .ok (.getfield 40, 3) := by decide +kernel
theorem dX9_toGo_14 : decode cX9_toGo 14 = .ok (.aload_n 0, 1) := by decide +kernel
theorem dX9_toGo_15 : decode cX9_toGo 15 = .ok (.getfield 10, 3) := by decide +kernel
theorem dX9_toGo_18 : decode cX9_toGo 18 = .ok (.aload_n 0, 1) := by decide +kernel
theorem dX9_toGo_19 : decode cX9_toGo 19 = .ok (.getfield 26, 3) := by decide +kernel
theorem dX9_toGo_22 : decode cX9_toGo 22 = .ok (.invokevirtual 244, 3) := by decide +kernel
theorem dX9_toGo_25 : decode cX9_toGo 25 = .ok (.invokestatic 248, 3) := by decide +kernel
theorem dX9_toGo_28 : decode cX9_toGo 28 = .ok (.goto 5, 3) := by decide +kernel
theorem dX9_toGo_31 : decode cX9_toGo 31 = .ok (.ldc 225, 2) := by decide +kernel
theorem dX9_toGo_33 : decode cX9_toGo 33 = .ok (.ireturn, 1) := by decide +kernel
theorem dX9_fresh_0 : decode cX9_fresh 0 = .ok (.aload_n 0, 1) := by decide +kernel
theorem dX9_fresh_1 : decode cX9_fresh 1 = .ok (.iload_n 1, 1) := by decide +kernel
theorem dX9_fresh_2 : decode cX9_fresh 2 = .ok (.iload_n 2, 1) := by decide +kernel
theorem dX9_fresh_3 : decode cX9_fresh 3 = .ok (.invokevirtual 198, 3) := by decide +kernel
theorem dX9_fresh_6 : decode cX9_fresh 6 = .ok (.istore_n 3, 1) := by decide +kernel
theorem dX9_fresh_7 : decode cX9_fresh 7 = .ok (.iload_n 3, 1) := by decide +kernel
theorem dX9_fresh_8 : decode cX9_fresh 8 = .ok (.ifCond .eq 7, 3) := by decide +kernel
theorem dX9_fresh_11 : decode cX9_fresh 11 = .ok (.iload_n 3, 1) := by decide +kernel
theorem dX9_fresh_12 : decode cX9_fresh 12 = .ok (.goto 23, 3) := by decide +kernel
theorem dX9_fresh_15 : decode cX9_fresh 15 = .ok (.aload_n 0, 1) := by decide +kernel
theorem dX9_fresh_16 : decode cX9_fresh 16 = .ok (.getfield 40, 3) := by decide +kernel
theorem dX9_fresh_19 : decode cX9_fresh 19 = .ok (.aload_n 0, 1) := by decide +kernel
theorem dX9_fresh_20 : decode cX9_fresh 20 = .ok (.getfield 10, 3) := by decide +kernel
theorem dX9_fresh_23 : decode cX9_fresh 23 = .ok (.aload_n 0, 1) := by decide +kernel
theorem dX9_fresh_24 : decode cX9_fresh 24 = .ok (.getfield 26, 3) := by decide +kernel
theorem dX9_fresh_27 : decode cX9_fresh 27 = .ok (.iload_n 1, 1) := by decide +kernel
theorem dX9_fresh_28 : decode cX9_fresh 28 = .ok (.iload_n 2, 1) := by decide +kernel
theorem dX9_fresh_29 : decode cX9_fresh 29 = .ok (.invokevirtual 251, 3) := by decide +kernel
theorem dX9_fresh_32 : decode cX9_fresh 32 = .ok (.invokestatic 248, 3) := by decide +kernel
theorem dX9_fresh_35 : decode cX9_fresh 35 = .ok (.ireturn, 1) := by decide +kernel
theorem dX9_wishes_0 : decode cX9_wishes 0 = .ok (.aload_n 0, 1) := by decide +kernel
theorem dX9_wishes_1 : decode cX9_wishes 1 = .ok (.getfield 10, 3) := by decide +kernel
theorem dX9_wishes_4 : decode cX9_wishes 4 = .ok (.iload_n 1, 1) := by decide +kernel
theorem dX9_wishes_5 : decode cX9_wishes 5 = .ok (.iload_n 2, 1) := by decide +kernel
theorem dX9_wishes_6 : decode cX9_wishes 6 = .ok (.invokevirtual 255, 3) := by decide +kernel
theorem dX9_wishes_9 : decode cX9_wishes 9 = .ok (.ifCond .ne 6, 3) := by decide +kernel
theorem dX9_wishes_12 : decode cX9_wishes 12 = .ok (.ldc 160, 2) := by decide +kernel
theorem dX9_wishes_14 : decode cX9_wishes 14 = .ok (.ireturn, 1) := by decide +kernel
theorem dX9_wishes_15 : decode cX9_wishes 15 = .ok (.iload_n 3, 1) := by decide +kernel
theorem dX9_wishes_16 : decode cX9_wishes 16 = .ok (.iconst 0, 1) := by decide +kernel
theorem dX9_wishes_17 : decode cX9_wishes 17 = .ok (.iconst 2, 1) := by decide +kernel
theorem dX9_wishes_18 : decode cX9_wishes 18 = .ok (.invokestatic 229, 3) := by decide +kernel
theorem dX9_wishes_21 : decode cX9_wishes 21 = .ok (.ifCond .ne 6, 3) := by decide +kernel
theorem dX9_wishes_24 : decode cX9_wishes 24 = .ok (.ldc 73, 2) := by decide +kernel
theorem dX9_wishes_26 : decode cX9_wishes 26 = .ok (.ireturn, 1) := by decide +kernel
theorem dX9_wishes_27 : decode cX9_wishes 27 = .ok (.aload_n 0, 1) := by decide +kernel
theorem dX9_wishes_28 : decode cX9_wishes 28 = .ok (.getfield 10, 3) := by decide +kernel
theorem dX9_wishes_31 : decode cX9_wishes 31 = .ok (.getfield 110, 3) := by decide +kernel
theorem dX9_wishes_34 : decode cX9_wishes 34 = .ok (.ifCond .ne 6, 3) := by decide +kernel
theorem dX9_wishes_37 : decode cX9_wishes 37 = .ok (.ldc 225, 2) := by decide +kernel
theorem dX9_wishes_39 : decode cX9_wishes 39 = .ok (.ireturn, 1) := by decide +kernel
theorem dX9_wishes_40 : decode cX9_wishes 40 = .ok (.aload_n 0, 1) := by decide +kernel
theorem dX9_wishes_41 : decode cX9_wishes 41 = .ok (.getfield 40, 3) := by decide +kernel
theorem dX9_wishes_44 : decode cX9_wishes 44 = .ok (.aload_n 0, 1) := by decide +kernel
theorem dX9_wishes_45 : decode cX9_wishes 45 = .ok (.getfield 10, 3) := by decide +kernel
theorem dX9_wishes_48 : decode cX9_wishes 48 = .ok (.aload_n 0, 1) := by decide +kernel
theorem dX9_wishes_49 : decode cX9_wishes 49 = .ok (.getfield 26, 3) := by decide +kernel
theorem dX9_wishes_52 : decode cX9_wishes 52 = .ok (.iload_n 1, 1) := by decide +kernel
theorem dX9_wishes_53 : decode cX9_wishes 53 = .ok (.iload_n 2, 1) := by decide +kernel
theorem dX9_wishes_54 : decode cX9_wishes 54 = .ok (.invokevirtual 259, 3) := by decide +kernel
theorem dX9_wishes_57 : decode cX9_wishes 57 = .ok (.aload_n 0, 1) := by decide +kernel
theorem dX9_wishes_58 : decode cX9_wishes 58 = .ok (.getfield 40, 3) := by decide +kernel
theorem dX9_wishes_61 : decode cX9_wishes 61 = .ok (.getfield 263, 3) := by decide +kernel
theorem dX9_wishes_64 : decode cX9_wishes 64 = .ok (.sipush 1000, 3) := by decide +kernel
theorem dX9_wishes_67 : decode cX9_wishes 67 = .ok (.if_icmp .ne 5, 3) := by decide +kernel
theorem dX9_wishes_70 : decode cX9_wishes 70 = .ok (.iconst (-1), 1) := by decide +kernel
theorem dX9_wishes_71 : decode cX9_wishes 71 = .ok (.ireturn, 1) := by decide +kernel
theorem dX9_wishes_72 : decode cX9_wishes 72 = .ok (.iload_n 3, 1) := by decide +kernel
theorem dX9_wishes_73 : decode cX9_wishes 73 = .ok (.ifCond .ne 13, 3) := by decide +kernel
theorem dX9_wishes_76 : decode cX9_wishes 76 = .ok (.aload_n 0, 1) := by decide +kernel
theorem dX9_wishes_77 : decode cX9_wishes 77 = .ok (.getfield 40, 3) := by decide +kernel
theorem dX9_wishes_80 : decode cX9_wishes 80 = .ok (.getfield 263, 3) := by decide +kernel
theorem dX9_wishes_83 : decode cX9_wishes 83 = .ok (.goto 25, 3) := by decide +kernel
theorem dX9_wishes_86 : decode cX9_wishes 86 = .ok (.iload_n 3, 1) := by decide +kernel
theorem dX9_wishes_87 : decode cX9_wishes 87 = .ok (.iconst 1, 1) := by decide +kernel
theorem dX9_wishes_88 : decode cX9_wishes 88 = .ok (.if_icmp .ne 13, 3) := by decide +kernel
theorem dX9_wishes_91 : decode cX9_wishes 91 = .ok (.aload_n 0, 1) := by decide +kernel
theorem dX9_wishes_92 : decode cX9_wishes 92 = .ok (.getfield 40, 3) := by decide +kernel
theorem dX9_wishes_95 : decode cX9_wishes 95 = .ok (.getfield 266, 3) := by decide +kernel
theorem dX9_wishes_98 : decode cX9_wishes 98 = .ok (.goto 10, 3) := by decide +kernel
theorem dX9_wishes_101 : decode cX9_wishes 101 = .ok (.aload_n 0, 1) := by decide +kernel
theorem dX9_wishes_102 : decode cX9_wishes 102 = .ok (.getfield 40, 3) := by decide +kernel
theorem dX9_wishes_105 : decode cX9_wishes 105 = .ok (.getfield 269, 3) := by decide +kernel
theorem dX9_wishes_108 : decode cX9_wishes 108 = .ok (.ireturn, 1) := by decide +kernel
theorem dX9_quarrel_0 : decode cX9_quarrel 0 = .ok (.aload_n 0, 1) := by decide +kernel
theorem dX9_quarrel_1 : decode cX9_quarrel 1 = .ok (.iload_n 1, 1) := by decide +kernel
theorem dX9_quarrel_2 : decode cX9_quarrel 2 = .ok (.iload_n 2, 1) := by decide +kernel
theorem dX9_quarrel_3 : decode cX9_quarrel 3 = .ok (.invokevirtual 198, 3) := by decide +kernel
theorem dX9_quarrel_6 : decode cX9_quarrel 6 = .ok (.istore_n 3, 1) := by decide +kernel
theorem dX9_quarrel_7 : decode cX9_quarrel 7 = .ok (.iload_n 3, 1) := by decide +kernel
theorem dX9_quarrel_8 : decode cX9_quarrel 8 = .ok (.ifCond .eq 7, 3) := by decide +kernel
theorem dX9_quarrel_11 : decode cX9_quarrel 11 = .ok (.iload_n 3, 1) := by decide +kernel
theorem dX9_quarrel_12 : decode cX9_quarrel 12 = .ok (.goto 20, 3) := by decide +kernel
theorem dX9_quarrel_15 : decode cX9_quarrel 15 = .ok (.aload_n 0, 1) := by decide +kernel
theorem dX9_quarrel_16 : decode cX9_quarrel 16 = .ok (.getfield 40, 3) := by decide +kernel
theorem dX9_quarrel_19 : decode cX9_quarrel 19 = .ok (.aload_n 0, 1) := by decide +kernel
theorem dX9_quarrel_20 : decode cX9_quarrel 20 = .ok (.getfield 10, 3) := by decide +kernel
theorem dX9_quarrel_23 : decode cX9_quarrel 23 = .ok (.aload_n 0, 1) := by decide +kernel
theorem dX9_quarrel_24 : decode cX9_quarrel 24 = .ok (.getfield 26, 3) := by decide +kernel
theorem dX9_quarrel_27 : decode cX9_quarrel 27 = .ok (.iload_n 1, 1) := by decide +kernel
theorem dX9_quarrel_28 : decode cX9_quarrel 28 = .ok (.iload_n 2, 1) := by decide +kernel
theorem dX9_quarrel_29 : decode cX9_quarrel 29 = .ok (.invokevirtual 272, 3) := by decide +kernel
theorem dX9_quarrel_32 : decode cX9_quarrel 32 = .ok (.ireturn, 1) := by decide +kernel
theorem dX9_withWhom_0 : decode cX9_withWhom 0 = .ok (.iload_n 1, 1) := by decide +kernel
theorem dX9_withWhom_1 : decode cX9_withWhom 1 = .ok (.iconst 0, 1) := by decide +kernel
theorem dX9_withWhom_2 : decode cX9_withWhom 2 = .ok (.iconst 1, 1) := by decide +kernel
theorem dX9_withWhom_3 : decode cX9_withWhom 3 = .ok (.invokestatic 229, 3) := by decide +kernel
theorem dX9_withWhom_6 : decode cX9_withWhom 6 = .ok (.ifCond .ne 6, 3) := by decide +kernel
theorem dX9_withWhom_9 : decode cX9_withWhom 9 = .ok (.ldc 73, 2) := by decide +kernel
theorem dX9_withWhom_11 : decode cX9_withWhom 11 = .ok (.ireturn, 1) := by decide +kernel
theorem dX9_withWhom_12 : decode cX9_withWhom 12 = .ok (.aload_n 0, 1) := by decide +kernel
theorem dX9_withWhom_13 : decode cX9_withWhom 13 = .ok (.getfield 10, 3) := by decide +kernel
theorem dX9_withWhom_16 : decode cX9_withWhom 16 = .ok (.getfield 110, 3) := by decide +kernel
theorem dX9_withWhom_19 : decode cX9_withWhom 19 = .ok (.ifCond .ne 6, 3) := by decide +kernel
theorem dX9_withWhom_22 : decode cX9_withWhom 22 = .ok (.ldc 225, 2) := by decide +kernel
theorem dX9_withWhom_24 : decode cX9_withWhom 24 = .ok (.ireturn, 1) := by decide +kernel
theorem dX9_withWhom_25 : decode cX9_withWhom 25 = .ok (.aload_n 0, 1) := by decide +kernel
theorem dX9_withWhom_26 : decode cX9_withWhom 26 = .ok (.getfield 40, 3) := by decide +kernel
theorem dX9_withWhom_29 : decode cX9_withWhom 29 = .ok (.aload_n 0, 1) := by decide +kernel
theorem dX9_withWhom_30 : decode cX9_withWhom 30 = .ok (.getfield 10, 3) := by decide +kernel
theorem dX9_withWhom_33 : decode cX9_withWhom 33 = .ok (.aload_n 0, 1) := by decide +kernel
theorem dX9_withWhom_34 : decode cX9_withWhom 34 = .ok (.getfield 26, 3) := by decide +kernel
theorem dX9_withWhom_37 : decode cX9_withWhom 37 = .ok (.invokevirtual 275, 3) := by decide +kernel
theorem dX9_withWhom_40 : decode cX9_withWhom 40 = .ok (.istore_n 2, 1) := by decide +kernel
theorem dX9_withWhom_41 : decode cX9_withWhom 41 = .ok (.iload_n 2, 1) := by decide +kernel
theorem dX9_withWhom_42 : decode cX9_withWhom 42 = .ok (.iconst (-1), 1) := by decide +kernel
theorem dX9_withWhom_43 : decode cX9_withWhom 43 = .ok (.if_icmp .eq 8, 3) := by decide +kernel
theorem dX9_withWhom_46 : decode cX9_withWhom 46 = .ok (.iload_n 1, 1) := by decide +kernel
theorem dX9_withWhom_47 : decode cX9_withWhom 47 = .ok (.iconst 1, 1) := by decide +kernel
theorem dX9_withWhom_48 : decode cX9_withWhom 48 = .ok (.if_icmp .ne 7, 3) := by decide +kernel
theorem dX9_withWhom_51 : decode cX9_withWhom 51 = .ok (.iload_n 2, 1) := by decide +kernel
theorem dX9_withWhom_52 : decode cX9_withWhom 52 = .ok (.goto 10, 3) := by decide +kernel
theorem dX9_withWhom_55 : decode cX9_withWhom 55 = .ok (.aload_n 0, 1) := by decide +kernel
theorem dX9_withWhom_56 : decode cX9_withWhom 56 = .ok (.getfield 40, 3) := by decide +kernel
theorem dX9_withWhom_59 : decode cX9_withWhom 59 = .ok (.getfield 263, 3) := by decide +kernel
theorem dX9_withWhom_62 : decode cX9_withWhom 62 = .ok (.ireturn, 1) := by decide +kernel
theorem dX9_changes_0 : decode cX9_changes 0 = .ok (.iload_n 1, 1) := by decide +kernel
theorem dX9_changes_1 : decode cX9_changes 1 = .ok (.iconst 1, 1) := by decide +kernel
theorem dX9_changes_2 : decode cX9_changes 2 = .ok (.bipush 30, 2) := by decide +kernel
theorem dX9_changes_4 : decode cX9_changes 4 = .ok (.invokestatic 229, 3) := by decide +kernel
theorem dX9_changes_7 : decode cX9_changes 7 = .ok (.ifCond .eq 23, 3) := by decide +kernel
theorem dX9_changes_10 : decode cX9_changes 10 = .ok (.iload_n 2, 1) := by decide +kernel
theorem dX9_changes_11 : decode cX9_changes 11 = .ok (.iconst 0, 1) := by decide +kernel
theorem dX9_changes_12 : decode cX9_changes 12 = .ok (.sipush 999, 3) := by decide +kernel
theorem dX9_changes_15 : decode cX9_changes 15 = .ok (.invokestatic 229, 3) := by decide +kernel
theorem dX9_changes_18 : decode cX9_changes 18 = .ok (.ifCond .eq 12, 3) := by decide +kernel
theorem dX9_changes_21 : decode cX9_changes 21 = .ok (.iload_n 3, 1) := by decide +kernel
theorem dX9_changes_22 : decode cX9_changes 22 = .ok (.iconst 0, 1) := by decide +kernel
theorem dX9_changes_23 : decode cX9_changes 23 = .ok (.iconst 1, 1) := by decide +kernel
theorem dX9_changes_24 : decode cX9_changes 24 = .ok (.invokestatic 229, 3) := by decide +kernel
theorem dX9_changes_27 : decode cX9_changes 27 = .ok (.ifCond .ne 6, 3) := by decide +kernel
theorem dX9_changes_30 : decode cX9_changes 30 = .ok (.ldc 73, 2) := by decide +kernel
theorem dX9_changes_32 : decode cX9_changes 32 = .ok (.ireturn, 1) := by decide +kernel
theorem dX9_changes_33 : decode cX9_changes 33 = .ok (.aload_n 0, 1) := by decide +kernel
theorem dX9_changes_34 : decode cX9_changes 34 = .ok (.getfield 26, 3) := by decide +kernel
theorem dX9_changes_37 : decode cX9_changes 37 = .ok (.invokevirtual 221, 3) := by decide +kernel
theorem dX9_changes_40 : decode cX9_changes 40 = .ok (.ifCond .ne 6, 3) := by decide +kernel
theorem dX9_changes_43 : decode cX9_changes 43 = .ok (.ldc 225, 2) := by decide +kernel
theorem dX9_changes_45 : decode cX9_changes 45 = .ok (.ireturn, 1) := by decide +kernel
theorem dX9_changes_46 : decode cX9_changes 46 = .ok (.aload_n 0, 1) := by decide +kernel
theorem dX9_changes_47 : decode cX9_changes 47 = .ok (.getfield 47, 3) := by decide +kernel
theorem dX9_changes_50 : decode cX9_changes 50 = .ok (.aload_n 0, 1) := by decide +kernel
theorem dX9_changes_51 : decode cX9_changes 51 = .ok (.getfield 26, 3) := by decide +kernel
theorem dX9_changes_54 : decode cX9_changes 54 = .ok (.getfield 134, 3) := by decide +kernel
theorem dX9_changes_57 : decode cX9_changes 57 = .ok (.aload_n 0, 1) := by decide +kernel
theorem dX9_changes_58 : decode cX9_changes 58 = .ok (.getfield 26, 3) := by decide +kernel
theorem dX9_changes_61 : decode cX9_changes 61 = .ok (.aload_n 0, 1) := by decide +kernel
theorem dX9_changes_62 : decode cX9_changes 62 = .ok (.getfield 10, 3) := by decide +kernel
theorem dX9_changes_65 : decode cX9_changes 65 = .ok (.invokevirtual 278, 3) := by decide +kernel
theorem dX9_changes_68 : decode cX9_changes 68 = .ok (.iload_n 1, 1) := by decide +kernel
theorem dX9_changes_69 : decode cX9_changes 69 = .ok (.iload_n 2, 1) := by decide +kernel
theorem dX9_changes_70 : decode cX9_changes 70 = .ok (.invokevirtual 281, 3) := by decide +kernel
theorem dX9_changes_73 : decode cX9_changes 73 = .ok (.iload_n 3, 1) := by decide +kernel
theorem dX9_changes_74 : decode cX9_changes 74 = .ok (.ifCond .ne 13, 3) := by decide +kernel
theorem dX9_changes_77 : decode cX9_changes 77 = .ok (.aload_n 0, 1) := by decide +kernel
theorem dX9_changes_78 : decode cX9_changes 78 = .ok (.getfield 47, 3) := by decide +kernel
theorem dX9_changes_81 : decode cX9_changes 81 = .ok (.getfield 285, 3) := by decide +kernel
theorem dX9_changes_84 : decode cX9_changes 84 = .ok (.goto 10, 3) := by decide +kernel
theorem dX9_changes_87 : decode cX9_changes 87 = .ok (.aload_n 0, 1) := by decide +kernel
theorem dX9_changes_88 : decode cX9_changes 88 = .ok (.getfield 47, 3) := by decide +kernel
theorem dX9_changes_91 : decode cX9_changes 91 = .ok (.getfield 286, 3) := by decide +kernel
theorem dX9_changes_94 : decode cX9_changes 94 = .ok (.ireturn, 1) := by decide +kernel
theorem dX9_whenWedge_0 : decode cX9_whenWedge 0 = .ok (.iload_n 1, 1) := by decide +kernel
theorem dX9_whenWedge_1 : decode cX9_whenWedge 1 = .ok (.iconst 0, 1) := by decide +kernel
theorem dX9_whenWedge_2 : decode cX9_whenWedge 2 = .ok (.iconst 1, 1) := by decide +kernel
theorem dX9_whenWedge_3 : decode cX9_whenWedge 3 = .ok (.invokestatic 229, 3) := by decide +kernel
theorem dX9_whenWedge_6 : decode cX9_whenWedge 6 = .ok (.ifCond .ne 6, 3) := by decide +kernel
theorem dX9_whenWedge_9 : decode cX9_whenWedge 9 = .ok (.ldc 73, 2) := by decide +kernel
theorem dX9_whenWedge_11 : decode cX9_whenWedge 11 = .ok (.ireturn, 1) := by decide +kernel
theorem dX9_whenWedge_12 : decode cX9_whenWedge 12 = .ok (.aload_n 0, 1) := by decide +kernel
theorem dX9_whenWedge_13 : decode cX9_whenWedge 13 = .ok (.getfield 26, 3) := by decide +kernel
theorem dX9_whenWedge_16 : decode cX9_whenWedge 16 = .ok (.invokevirtual 221, 3) := by decide +kernel
theorem dX9_whenWedge_19 : decode cX9_whenWedge 19 = .ok (.ifCond .ne 6, 3) := by decide +kernel
theorem dX9_whenWedge_22 : decode cX9_whenWedge 22 = .ok (.ldc 225, 2) := by decide +kernel
theorem dX9_whenWedge_24 : decode cX9_whenWedge 24 = .ok (.ireturn, 1) := by decide +kernel
theorem dX9_whenWedge_25 : decode cX9_whenWedge 25 = .ok (.aload_n 0, 1) := by decide +kernel
theorem dX9_whenWedge_26 : decode cX9_whenWedge 26 = .ok (.getfield 40, 3) := by decide +kernel
theorem dX9_whenWedge_29 : decode cX9_whenWedge 29 = .ok (.aload_n 0, 1) := by decide +kernel
theorem dX9_whenWedge_30 : decode cX9_whenWedge 30 = .ok (.getfield 10, 3) := by decide +kernel
theorem dX9_whenWedge_33 : decode cX9_whenWedge 33 = .ok (.aload_n 0, 1) := by decide +kernel
theorem dX9_whenWedge_34 : decode cX9_whenWedge 34 = .ok (.getfield 26, 3) := by decide +kernel
theorem dX9_whenWedge_37 : decode cX9_whenWedge 37 = .ok (.invokevirtual 289, 3) := by decide +kernel
theorem dX9_whenWedge_40 : decode cX9_whenWedge 40 = .ok (.istore_n 2, 1) := by decide +kernel
theorem dX9_whenWedge_41 : decode cX9_whenWedge 41 = .ok (.iload_n 2, 1) := by decide +kernel
theorem dX9_whenWedge_42 : decode cX9_whenWedge 42 = .ok (.iconst (-1), 1) := by decide +kernel
theorem dX9_whenWedge_43 : decode cX9_whenWedge 43 = .ok (.if_icmp .eq 7, 3) := by decide +kernel
theorem dX9_whenWedge_46 : decode cX9_whenWedge 46 = .ok (.iload_n 1, 1) := by decide +kernel
theorem dX9_whenWedge_47 : decode cX9_whenWedge 47 = .ok (.ifCond .ne 7, 3) := by decide +kernel
theorem dX9_whenWedge_50 : decode cX9_whenWedge 50 = .ok (.iload_n 2, 1) := by decide +kernel
theorem dX9_whenWedge_51 : decode cX9_whenWedge 51 = .ok (.goto 10, 3) := by decide +kernel
theorem dX9_whenWedge_54 : decode cX9_whenWedge 54 = .ok (.aload_n 0, 1) := by decide +kernel
theorem dX9_whenWedge_55 : decode cX9_whenWedge 55 = .ok (.getfield 40, 3) := by decide +kernel
theorem dX9_whenWedge_58 : decode cX9_whenWedge 58 = .ok (.getfield 263, 3) := by decide +kernel
theorem dX9_whenWedge_61 : decode cX9_whenWedge 61 = .ok (.ireturn, 1) := by decide +kernel
theorem dX9_whenRest_0 : decode cX9_whenRest 0 = .ok (.iload_n 1, 1) := by decide +kernel
theorem dX9_whenRest_1 : decode cX9_whenRest 1 = .ok (.iconst 1, 1) := by decide +kernel
theorem dX9_whenRest_2 : decode cX9_whenRest 2 = .ok (.bipush 10, 2) := by decide +kernel
theorem dX9_whenRest_4 : decode cX9_whenRest 4 = .ok (.invokestatic 229, 3) := by decide +kernel
theorem dX9_whenRest_7 : decode cX9_whenRest 7 = .ok (.ifCond .eq 12, 3) := by decide +kernel
theorem dX9_whenRest_10 : decode cX9_whenRest 10 = .ok (.iload_n 2, 1) := by decide +kernel
theorem dX9_whenRest_11 : decode cX9_whenRest 11 = .ok (.iconst 0, 1) := by decide +kernel
theorem dX9_whenRest_12 : decode cX9_whenRest 12 = .ok (.iconst 1, 1) := by decide +kernel
theorem dX9_whenRest_13 : decode cX9_whenRest 13 = .ok (.invokestatic 229, 3) := by decide +kernel
theorem dX9_whenRest_16 : decode cX9_whenRest 16 = .ok (.ifCond .ne 6, 3) := by decide +kernel
theorem dX9_whenRest_19 : decode cX9_whenRest 19 = .ok (.ldc 73, 2) := by decide +kernel
theorem dX9_whenRest_21 : decode cX9_whenRest 21 = .ok (.ireturn, 1) := by decide +kernel
theorem dX9_whenRest_22 : decode cX9_whenRest 22 = .ok (.aload_n 0, 1) := by decide +kernel
theorem dX9_whenRest_23 : decode cX9_whenRest 23 = .ok (.getfield 26, 3) := by decide +kernel
theorem dX9_whenRest_26 : decode cX9_whenRest 26 = .ok (.invokevirtual 221, 3) := by decide +kernel
theorem dX9_whenRest_29 : decode cX9_whenRest 29 = .ok (.ifCond .ne 6, 3) := by decide +kernel
theorem dX9_whenRest_32 : decode cX9_whenRest 32 = .ok (.ldc 225, 2) := by decide +kernel
theorem dX9_whenRest_34 : decode cX9_whenRest 34 = .ok (.ireturn, 1) := by decide +kernel
theorem dX9_whenRest_35 : decode cX9_whenRest 35 = .ok (.aload_n 0, 1) := by decide +kernel
theorem dX9_whenRest_36 : decode cX9_whenRest 36 = .ok (.getfield 40, 3) := by decide +kernel
theorem dX9_whenRest_39 : decode cX9_whenRest 39 = .ok (.aload_n 0, 1) := by decide +kernel
theorem dX9_whenRest_40 : decode cX9_whenRest 40 = .ok (.getfield 10, 3) := by decide +kernel
theorem dX9_whenRest_43 : decode cX9_whenRest 43 = .ok (.aload_n 0, 1) := by decide +kernel
theorem dX9_whenRest_44 : decode cX9_whenRest 44 = .ok (.getfield 26, 3) := by decide +kernel
theorem dX9_whenRest_47 : decode cX9_whenRest 47 = .ok (.iload_n 1, 1) := by decide +kernel
theorem dX9_whenRest_48 : decode cX9_whenRest 48 = .ok (.invokevirtual 292, 3) := by decide +kernel
theorem dX9_whenRest_51 : decode cX9_whenRest 51 = .ok (.istore_n 3, 1) := by decide +kernel
theorem dX9_whenRest_52 : decode cX9_whenRest 52 = .ok (.iload_n 2, 1) := by decide +kernel
theorem dX9_whenRest_53 : decode cX9_whenRest 53 = .ok (.ifCond .ne 13, 3) := by decide +kernel
theorem dX9_whenRest_56 : decode cX9_whenRest 56 = .ok (.aload_n 0, 1) := by decide +kernel
theorem dX9_whenRest_57 : decode cX9_whenRest 57 = .ok (.getfield 40, 3) := by decide +kernel
theorem dX9_whenRest_60 : decode cX9_whenRest 60 = .ok (.getfield 296, 3) := by decide +kernel
theorem dX9_whenRest_63 : decode cX9_whenRest 63 = .ok (.goto 4, 3) := by decide +kernel
theorem dX9_whenRest_66 : decode cX9_whenRest 66 = .ok (.iload_n 3, 1) := by decide +kernel
theorem dX9_whenRest_67 : decode cX9_whenRest 67 = .ok (.ireturn, 1) := by decide +kernel
theorem dX9_worthFile_0 : decode cX9_worthFile 0 = .ok (.aload_n 0, 1) := by decide +kernel
theorem dX9_worthFile_1 : decode cX9_worthFile 1 = .ok (.getfield 26, 3) := by decide +kernel
theorem dX9_worthFile_4 : decode cX9_worthFile 4 = .ok (.invokevirtual 221, 3) := by decide +kernel
theorem dX9_worthFile_7 : decode cX9_worthFile 7 = .ok (.ifCond .eq 21, 3) := by decide +kernel
theorem dX9_worthFile_10 : decode cX9_worthFile 10 = .ok (.aload_n 0, 1) := by decide +kernel
theorem dX9_worthFile_11 : decode cX9_worthFile 11 = .ok (.getfield 40, 3) := by decide +kernel
theorem dX9_worthFile_14 : decode cX9_worthFile 14 = .ok (.aload_n 0, 1) := by decide +kernel
theorem dX9_worthFile_15 : decode cX9_worthFile 15 = .ok (.getfield 10, 3) := by decide +kernel
theorem dX9_worthFile_18 : decode cX9_worthFile 18 = .ok (.aload_n 0, 1) := by decide +kernel
theorem dX9_worthFile_19 : decode cX9_worthFile 19 = .ok (.getfield 26, 3) := by decide +kernel
theorem dX9_worthFile_22 : decode cX9_worthFile 22 = .ok (.invokevirtual 299, 3) := by decide +kernel
theorem dX9_worthFile_25 : decode cX9_worthFile 25 = .ok (.goto 5, 3) := by decide +kernel
theorem dX9_worthFile_28 : decode cX9_worthFile 28 = .ok (.ldc 225, 2) := by decide +kernel
theorem dX9_worthFile_30 : decode cX9_worthFile 30 = .ok (.ireturn, 1) := by decide +kernel
theorem dX9_see_0 : decode cX9_see 0 = .ok (.aload_n 0, 1) := by decide +kernel
theorem dX9_see_1 : decode cX9_see 1 = .ok (.getfield 56, 3) := by decide +kernel
theorem dX9_see_4 : decode cX9_see 4 = .ok (.iload_n 1, 1) := by decide +kernel
theorem dX9_see_5 : decode cX9_see 5 = .ok (.invokestatic 302, 3) := by decide +kernel
theorem dX9_see_8 : decode cX9_see 8 = .ok (.ireturn, 1) := by decide +kernel
theorem dX9_habits_0 : decode cX9_habits 0 = .ok (.aload_n 0, 1) := by decide +kernel
theorem dX9_habits_1 : decode cX9_habits 1 = .ok (.iload_n 1, 1) := by decide +kernel
theorem dX9_habits_2 : decode cX9_habits 2 = .ok (.iload_n 2, 1) := by decide +kernel
theorem dX9_habits_3 : decode cX9_habits 3 = .ok (.invokevirtual 198, 3) := by decide +kernel
theorem dX9_habits_6 : decode cX9_habits 6 = .ok (.istore_n 3, 1) := by decide +kernel
theorem dX9_habits_7 : decode cX9_habits 7 = .ok (.iload_n 3, 1) := by decide +kernel
theorem dX9_habits_8 : decode cX9_habits 8 = .ok (.ifCond .eq 7, 3) := by decide +kernel
theorem dX9_habits_11 : decode cX9_habits 11 = .ok (.iload_n 3, 1) := by decide +kernel
theorem dX9_habits_12 : decode cX9_habits 12 = .ok (.goto 24, 3) := by decide +kernel
theorem dX9_habits_15 : decode cX9_habits 15 = .ok (.aload_n 0, 1) := by decide +kernel
theorem dX9_habits_16 : decode cX9_habits 16 = .ok (.getfield 40, 3) := by decide +kernel
theorem dX9_habits_19 : decode cX9_habits 19 = .ok (.aload_n 0, 1) := by decide +kernel
theorem dX9_habits_20 : decode cX9_habits 20 = .ok (.getfield 10, 3) := by decide +kernel
theorem dX9_habits_23 : decode cX9_habits 23 = .ok (.aload_n 0, 1) := by decide +kernel
theorem dX9_habits_24 : decode cX9_habits 24 = .ok (.getfield 26, 3) := by decide +kernel
theorem dX9_habits_27 : decode cX9_habits 27 = .ok (.iload_n 1, 1) := by decide +kernel
theorem dX9_habits_28 : decode cX9_habits 28 = .ok (.iload_n 2, 1) := by decide +kernel
theorem dX9_habits_29 : decode cX9_habits 29 = .ok (.aload_n 0, 1) := by decide +kernel
theorem dX9_habits_30 : decode cX9_habits 30 = .ok (.getfield 56, 3) := by decide +kernel
theorem dX9_habits_33 : decode cX9_habits 33 = .ok (.invokevirtual 306, 3) := by decide +kernel
theorem dX9_habits_36 : decode cX9_habits 36 = .ok (.ireturn, 1) := by decide +kernel
theorem dX9_end_0 : decode cX9_end 0 = .ok (.aload_n 0, 1) := by decide +kernel
theorem dX9_end_1 : decode cX9_end 1 = .ok (.getfield 10, 3) := by decide +kernel
theorem dX9_end_4 : decode cX9_end 4 = .ok (.getfield 110, 3) := by decide +kernel
theorem dX9_end_7 : decode cX9_end 7 = .ok (.ifCond .ne 8, 3) := by decide +kernel
theorem dX9_end_10 : decode cX9_end 10 = .ok (.ldc 225, 2) := by decide +kernel
theorem dX9_end_12 : decode cX9_end 12 = .ok (.goto 23, 3) := by decide +kernel
theorem dX9_end_15 : decode cX9_end 15 = .ok (.aload_n 0, 1) := by decide +kernel
theorem dX9_end_16 : decode cX9_end 16 = .ok (.getfield 40, 3) := by decide +kernel
theorem dX9_end_19 : decode cX9_end 19 = .ok (.aload_n 0, 1) := by decide +kernel
theorem dX9_end_20 : decode cX9_end 20 = .ok (.getfield 10, 3) := by decide +kernel
theorem dX9_end_23 : decode cX9_end 23 = .ok (.aload_n 0, 1) := by decide +kernel
theorem dX9_end_24 : decode cX9_end 24 = .ok (.getfield 26, 3) := by decide +kernel
theorem dX9_end_27 : decode cX9_end 27 = .ok (.aload_n 0, 1) := by decide +kernel
theorem dX9_end_28 : decode cX9_end 28 = .ok (.getfield 56, 3) := by decide +kernel
theorem dX9_end_31 : decode cX9_end 31 = .ok (.iload_n 1, 1) := by decide +kernel
theorem dX9_end_32 : decode cX9_end 32 = .ok (.invokevirtual 310, 3) := by decide +kernel
theorem dX9_end_35 : decode cX9_end 35 = .ok (.ireturn, 1) := by decide +kernel
theorem dX9_write_0 : decode cX9_write 0 = .ok (.aload_n 0, 1) := by decide +kernel
theorem dX9_write_1 : decode cX9_write 1 = .ok (.getfield 60, 3) := by decide +kernel
theorem dX9_write_4 : decode cX9_write 4 = .ok (.iload_n 1, 1) := by decide +kernel
theorem dX9_write_5 : decode cX9_write 5 = .ok (.invokestatic 302, 3) := by decide +kernel
theorem dX9_write_8 : decode cX9_write 8 = .ok (.ireturn, 1) := by decide +kernel
theorem dX9_judge_0 : decode cX9_judge 0 = .ok (.aload_n 0, 1) := by decide +kernel
theorem dX9_judge_1 : decode cX9_judge 1 = .ok (.getfield 26, 3) := by decide +kernel
theorem dX9_judge_4 : decode cX9_judge 4 = .ok (.invokevirtual 221, 3) := by decide +kernel
theorem dX9_judge_7 : decode cX9_judge 7 = .ok (.ifCond .eq 25, 3) := by decide +kernel
theorem dX9_judge_10 : decode cX9_judge 10 = .ok (.aload_n 0, 1) := by decide +kernel
theorem dX9_judge_11 : decode cX9_judge 11 = .ok (.getfield 40, 3) := by decide +kernel
theorem dX9_judge_14 : decode cX9_judge 14 = .ok (.aload_n 0, 1) := by decide +kernel
theorem dX9_judge_15 : decode cX9_judge 15 = .ok (.getfield 10, 3) := by decide +kernel
theorem dX9_judge_18 : decode cX9_judge 18 = .ok (.aload_n 0, 1) := by decide +kernel
theorem dX9_judge_19 : decode cX9_judge 19 = .ok (.getfield 26, 3) := by decide +kernel
theorem dX9_judge_22 : decode cX9_judge 22 = .ok (.aload_n 0, 1) := by decide +kernel
theorem dX9_judge_23 : decode cX9_judge 23 = .ok (.getfield 60, 3) := by decide +kernel
theorem dX9_judge_26 : decode cX9_judge 26 = .ok (.invokevirtual 314, 3) := by decide +kernel
theorem dX9_judge_29 : decode cX9_judge 29 = .ok (.goto 5, 3) := by decide +kernel
theorem dX9_judge_32 : decode cX9_judge 32 = .ok (.ldc 225, 2) := by decide +kernel
theorem dX9_judge_34 : decode cX9_judge 34 = .ok (.ireturn, 1) := by decide +kernel
theorem dX9_tear_0 : decode cX9_tear 0 = .ok (.aload_n 0, 1) := by decide +kernel
theorem dX9_tear_1 : decode cX9_tear 1 = .ok (.getfield 56, 3) := by decide +kernel
theorem dX9_tear_4 : decode cX9_tear 4 = .ok (.getfield 81, 3) := by decide +kernel
theorem dX9_tear_7 : decode cX9_tear 7 = .ok (.aload_n 0, 1) := by decide +kernel
theorem dX9_tear_8 : decode cX9_tear 8 = .ok (.getfield 60, 3) := by decide +kernel
theorem dX9_tear_11 : decode cX9_tear 11 = .ok (.getfield 81, 3) := by decide +kernel
theorem dX9_tear_14 : decode cX9_tear 14 = .ok (.iadd, 1) := by decide +kernel
theorem dX9_tear_15 : decode cX9_tear 15 = .ok (.istore_n 1, 1) := by decide +kernel
theorem dX9_tear_16 : decode cX9_tear 16 = .ok (.aload_n 0, 1) := by decide +kernel
theorem dX9_tear_17 : decode cX9_tear 17 = .ok (.getfield 56, 3) := by decide +kernel
theorem dX9_tear_20 : decode cX9_tear 20 = .ok (.invokevirtual 102, 3) := by decide +kernel
theorem dX9_tear_23 : decode cX9_tear 23 = .ok (.aload_n 0, 1) := by decide +kernel
theorem dX9_tear_24 : decode cX9_tear 24 = .ok (.getfield 60, 3) := by decide +kernel
theorem dX9_tear_27 : decode cX9_tear 27 = .ok (.invokevirtual 102, 3) := by decide +kernel
theorem dX9_tear_30 : decode cX9_tear 30 = .ok (.iload_n 1, 1) := by decide +kernel
theorem dX9_tear_31 : decode cX9_tear 31 = .ok (.ireturn, 1) := by decide +kernel
theorem dX9_seed_0 : decode cX9_seed 0 = .ok (.iload_n 1, 1) := by decide +kernel
theorem dX9_seed_1 : decode cX9_seed 1 = .ok (.ifCond .ge 6, 3) := by decide +kernel
theorem dX9_seed_4 : decode cX9_seed 4 = .ok (.ldc 73, 2) := by decide +kernel
theorem dX9_seed_6 : decode cX9_seed 6 = .ok (.ireturn, 1) := by decide +kernel
theorem dX9_seed_7 : decode cX9_seed 7 = .ok (.aload_n 0, 1) := by decide +kernel
theorem dX9_seed_8 : decode cX9_seed 8 = .ok (.getfield 318, 3) := by decide +kernel
theorem dX9_seed_11 : decode cX9_seed 11 = .ok (.istore_n 2, 1) := by decide +kernel
theorem dX9_seed_12 : decode cX9_seed 12 = .ok (.aload_n 0, 1) := by decide +kernel
theorem dX9_seed_13 : decode cX9_seed 13 = .ok (.iload_n 1, 1) := by decide +kernel
theorem dX9_seed_14 : decode cX9_seed 14 = .ok (.putfield 318, 3) := by decide +kernel
theorem dX9_seed_17 : decode cX9_seed 17 = .ok (.iload_n 2, 1) := by decide +kernel
theorem dX9_seed_18 : decode cX9_seed 18 = .ok (.ireturn, 1) := by decide +kernel
theorem dX9_keep_0 : decode cX9_keep 0 = .ok (.iload_n 1, 1) := by decide +kernel
theorem dX9_keep_1 : decode cX9_keep 1 = .ok (.iconst 0, 1) := by decide +kernel
theorem dX9_keep_2 : decode cX9_keep 2 = .ok (.iconst 1, 1) := by decide +kernel
theorem dX9_keep_3 : decode cX9_keep 3 = .ok (.invokestatic 229, 3) := by decide +kernel
theorem dX9_keep_6 : decode cX9_keep 6 = .ok (.ifCond .ne 6, 3) := by decide +kernel
theorem dX9_keep_9 : decode cX9_keep 9 = .ok (.ldc 160, 2) := by decide +kernel
theorem dX9_keep_11 : decode cX9_keep 11 = .ok (.ireturn, 1) := by decide +kernel
theorem dX9_keep_12 : decode cX9_keep 12 = .ok (.iload_n 1, 1) := by decide +kernel
theorem dX9_keep_13 : decode cX9_keep 13 = .ok (.ifCond .ne 10, 3) := by decide +kernel
theorem dX9_keep_16 : decode cX9_keep 16 = .ok (.aload_n 0, 1) := by decide +kernel
theorem dX9_keep_17 : decode cX9_keep 17 = .ok (.getfield 66, 3) := by decide +kernel
theorem dX9_keep_20 : decode cX9_keep 20 = .ok (.goto 7, 3) := by decide +kernel
theorem dX9_keep_23 : decode cX9_keep 23 = .ok (.aload_n 0, 1) := by decide +kernel
theorem dX9_keep_24 : decode cX9_keep 24 = .ok (.getfield 70, 3) := by decide +kernel
theorem dX9_keep_27 : decode cX9_keep 27 = .ok (.astore_n 2, 1) := by decide +kernel
theorem dX9_keep_28 : decode cX9_keep 28 = .ok (.aload_n 2, 1) := by decide +kernel
theorem dX9_keep_29 : decode cX9_keep 29 = .ok (.getfield 321, 3) := by decide +kernel
theorem dX9_keep_32 : decode cX9_keep 32 = .ok (.aload_n 0, 1) := by decide +kernel
theorem dX9_keep_33 : decode cX9_keep 33 = .ok (.getfield 26, 3) := by decide +kernel
theorem dX9_keep_36 : decode cX9_keep 36 = .ok (.invokevirtual 324, 3) := by decide +kernel
theorem dX9_keep_39 : decode cX9_keep 39 = .ok (.aload_n 2, 1) := by decide +kernel
theorem dX9_keep_40 : decode cX9_keep 40 = .ok (.aload_n 0, 1) := by decide +kernel
theorem dX9_keep_41 : decode cX9_keep 41 = .ok (.getfield 318, 3) := by decide +kernel
theorem dX9_keep_44 : decode cX9_keep 44 = .ok (.putfield 326, 3) := by decide +kernel
theorem dX9_keep_47 : decode cX9_keep 47 = .ok (.aload_n 2, 1) := by decide +kernel
theorem dX9_keep_48 : decode cX9_keep 48 = .ok (.iconst 1, 1) := by decide +kernel
theorem dX9_keep_49 : decode cX9_keep 49 = .ok (.putfield 106, 3) := by decide +kernel
theorem dX9_keep_52 : decode cX9_keep 52 = .ok (.aload_n 0, 1) := by decide +kernel
theorem dX9_keep_53 : decode cX9_keep 53 = .ok (.getfield 33, 3) := by decide +kernel
theorem dX9_keep_56 : decode cX9_keep 56 = .ok (.invokevirtual 105, 3) := by decide +kernel
theorem dX9_keep_59 : decode cX9_keep 59 = .ok (.iconst 1, 1) := by decide +kernel
theorem dX9_keep_60 : decode cX9_keep 60 = .ok (.ireturn, 1) := by decide +kernel
theorem dX9_goBack_0 : decode cX9_goBack 0 = .ok (.iload_n 1, 1) := by decide +kernel
theorem dX9_goBack_1 : decode cX9_goBack 1 = .ok (.iconst 0, 1) := by decide +kernel
theorem dX9_goBack_2 : decode cX9_goBack 2 = .ok (.iconst 1, 1) := by decide +kernel
theorem dX9_goBack_3 : decode cX9_goBack 3 = .ok (.invokestatic 229, 3) := by decide +kernel
theorem dX9_goBack_6 : decode cX9_goBack 6 = .ok (.ifCond .ne 6, 3) := by decide +kernel
theorem dX9_goBack_9 : decode cX9_goBack 9 = .ok (.ldc 160, 2) := by decide +kernel
theorem dX9_goBack_11 : decode cX9_goBack 11 = .ok (.ireturn, 1) := by decide +kernel
theorem dX9_goBack_12 : decode cX9_goBack 12 = .ok (.iload_n 1, 1) := by decide +kernel
theorem dX9_goBack_13 : decode cX9_goBack 13 = .ok (.ifCond .ne 10, 3) := by decide +kernel
theorem dX9_goBack_16 : decode cX9_goBack 16 = .ok (.aload_n 0, 1) := by decide +kernel
theorem dX9_goBack_17 : decode cX9_goBack 17 = .ok (.getfield 66, 3) := by decide +kernel
theorem dX9_goBack_20 : decode cX9_goBack 20 = .ok (.goto 7, 3) := by decide +kernel
theorem dX9_goBack_23 : decode cX9_goBack 23 = .ok (.aload_n 0, 1) := by decide +kernel
theorem dX9_goBack_24 : decode cX9_goBack 24 = .ok (.getfield 70, 3) := by decide +kernel
theorem dX9_goBack_27 : decode cX9_goBack 27 = .ok (.astore_n 2, 1) := by decide +kernel
theorem dX9_goBack_28 : decode cX9_goBack 28 = .ok (.aload_n 2, 1) := by decide +kernel
theorem dX9_goBack_29 : decode cX9_goBack 29 = .ok (.getfield 106, 3) := by decide +kernel
theorem dX9_goBack_32 : decode cX9_goBack 32 = .ok (.ifCond .ne 6, 3) := by decide +kernel
theorem dX9_goBack_35 : decode cX9_goBack 35 = .ok (.ldc 225, 2) := by decide +kernel
theorem dX9_goBack_37 : decode cX9_goBack 37 = .ok (.ireturn, 1) := by decide +kernel
theorem dX9_goBack_38 : decode cX9_goBack 38 = .ok (.aload_n 0, 1) := by decide +kernel
theorem dX9_goBack_39 : decode cX9_goBack 39 = .ok (.getfield 26, 3) := by decide +kernel
theorem dX9_goBack_42 : decode cX9_goBack 42 = .ok (.aload_n 2, 1) := by decide +kernel
theorem dX9_goBack_43 : decode cX9_goBack 43 = .ok (.getfield 321, 3) := by decide +kernel
theorem dX9_goBack_46 : decode cX9_goBack 46 = .ok (.invokevirtual 324, 3) := by decide +kernel
theorem dX9_goBack_49 : decode cX9_goBack 49 = .ok (.aload_n 0, 1) := by decide +kernel
theorem dX9_goBack_50 : decode cX9_goBack 50 = .ok (.aload_n 2, 1) := by decide +kernel
theorem dX9_goBack_51 : decode cX9_goBack 51 = .ok (.getfield 326, 3) := by decide +kernel
theorem dX9_goBack_54 : decode cX9_goBack 54 = .ok (.putfield 318, 3) := by decide +kernel
theorem dX9_goBack_57 : decode cX9_goBack 57 = .ok (.aload_n 0, 1) := by decide +kernel
theorem dX9_goBack_58 : decode cX9_goBack 58 = .ok (.getfield 33, 3) := by decide +kernel
theorem dX9_goBack_61 : decode cX9_goBack 61 = .ok (.invokevirtual 105, 3) := by decide +kernel
theorem dX9_goBack_64 : decode cX9_goBack 64 = .ok (.iconst 1, 1) := by decide +kernel
theorem dX9_goBack_65 : decode cX9_goBack 65 = .ok (.ireturn, 1) := by decide +kernel
theorem dX9_isWithin_0 : decode cX9_isWithin 0 = .ok (.iload_n 0, 1) := by decide +kernel
theorem dX9_isWithin_1 : decode cX9_isWithin 1 = .ok (.iload_n 1, 1) := by decide +kernel
theorem dX9_isWithin_2 : decode cX9_isWithin 2 = .ok (.if_icmp .lt 12, 3) := by decide +kernel
theorem dX9_isWithin_5 : decode cX9_isWithin 5 = .ok (.iload_n 0, 1) := by decide +kernel
theorem dX9_isWithin_6 : decode cX9_isWithin 6 = .ok (.iload_n 2, 1) := by decide +kernel
theorem dX9_isWithin_7 : decode cX9_isWithin 7 = .ok (.if_icmp .gt 7, 3) := by decide +kernel
theorem dX9_isWithin_10 : decode cX9_isWithin 10 = .ok (.iconst 1, 1) := by decide +kernel
theorem dX9_isWithin_11 : decode cX9_isWithin 11 = .ok (.goto 4, 3) := by decide +kernel
theorem dX9_isWithin_14 : decode cX9_isWithin 14 = .ok (.iconst 0, 1) := by decide +kernel
theorem dX9_isWithin_15 : decode cX9_isWithin 15 = .ok (.ireturn, 1) := by decide +kernel
theorem dX9_noneIfNever_0 : decode cX9_noneIfNever 0 = .ok (.iload_n 0, 1) := by decide +kernel
theorem dX9_noneIfNever_1 : decode cX9_noneIfNever 1 = .ok (.sipush 1000, 3) := by decide +kernel
theorem dX9_noneIfNever_4 : decode cX9_noneIfNever 4 = .ok (.if_icmp .ne 7, 3) := by decide +kernel
theorem dX9_noneIfNever_7 : decode cX9_noneIfNever 7 = .ok (.iconst (-1), 1) := by decide +kernel
theorem dX9_noneIfNever_8 : decode cX9_noneIfNever 8 = .ok (.goto 4, 3) := by decide +kernel
theorem dX9_noneIfNever_11 : decode cX9_noneIfNever 11 = .ok (.iload_n 0, 1) := by decide +kernel
theorem dX9_noneIfNever_12 : decode cX9_noneIfNever 12 = .ok (.ireturn, 1) := by decide +kernel
theorem dX9_refusalOfTwo_0 : decode cX9_refusalOfTwo 0 = .ok (.aload_n 0, 1) := by decide +kernel
theorem dX9_refusalOfTwo_1 : decode cX9_refusalOfTwo 1 = .ok (.getfield 10, 3) := by decide +kernel
theorem dX9_refusalOfTwo_4 : decode cX9_refusalOfTwo 4 = .ok (.iload_n 1, 1) := by decide +kernel
theorem dX9_refusalOfTwo_5 : decode cX9_refusalOfTwo 5 = .ok (.iload_n 2, 1) := by decide +kernel
theorem dX9_refusalOfTwo_6 : decode cX9_refusalOfTwo 6 = .ok (.invokevirtual 255, 3) := by decide +kernel
theorem dX9_refusalOfTwo_9 : decode cX9_refusalOfTwo 9 = .ok (.ifCond .ne 8, 3) := by decide +kernel
theorem dX9_refusalOfTwo_12 : decode cX9_refusalOfTwo 12 = .ok (.ldc 160, 2) := by decide +kernel
theorem dX9_refusalOfTwo_14 : decode cX9_refusalOfTwo 14 = .ok (.goto 19, 3) := by decide +kernel
theorem dX9_refusalOfTwo_17 : decode cX9_refusalOfTwo 17 = .ok (.aload_n 0, 1) := by decide +kernel
theorem dX9_refusalOfTwo_18 : decode cX9_refusalOfTwo 18 = .ok (.getfield 10, 3) := by decide +kernel
theorem dX9_refusalOfTwo_21 : decode cX9_refusalOfTwo 21 = .ok (.getfield 110, 3) := by decide +kernel
theorem dX9_refusalOfTwo_24 : decode cX9_refusalOfTwo 24 = .ok (.ifCond .ne 8, 3) := by decide +kernel
theorem dX9_refusalOfTwo_27 : decode cX9_refusalOfTwo 27 = .ok (.ldc 225, 2) := by decide +kernel
theorem dX9_refusalOfTwo_29 : decode cX9_refusalOfTwo 29 = .ok (.goto 4, 3) := by decide +kernel
theorem dX9_refusalOfTwo_32 : decode cX9_refusalOfTwo 32 = .ok (.iconst 0, 1) := by decide +kernel
theorem dX9_refusalOfTwo_33 : decode cX9_refusalOfTwo 33 = .ok (.ireturn, 1) := by decide +kernel
theorem dX9_refusalOfSawing_0 : decode cX9_refusalOfSawing 0 = .ok (.iload_n 1, 1) := by decide +kernel
theorem dX9_refusalOfSawing_1 : decode cX9_refusalOfSawing 1 = .ok (.iconst 1, 1) := by decide +kernel
theorem dX9_refusalOfSawing_2 : decode cX9_refusalOfSawing 2 = .ok (.bipush 99, 2) := by decide +kernel
theorem dX9_refusalOfSawing_4 : decode cX9_refusalOfSawing 4 = .ok (.invokestatic 229, 3) := by decide +kernel
theorem dX9_refusalOfSawing_7 : decode cX9_refusalOfSawing 7 = .ok (.ifCond .ne 8, 3) := by decide +kernel
theorem dX9_refusalOfSawing_10 : decode cX9_refusalOfSawing 10 = .ok (.ldc 73, 2) := by decide +kernel
theorem dX9_refusalOfSawing_12 : decode cX9_refusalOfSawing 12 = .ok (.goto 33, 3) := by decide +kernel
theorem dX9_refusalOfSawing_15 : decode cX9_refusalOfSawing 15 = .ok (.aload_n 0, 1) := by decide +kernel
theorem dX9_refusalOfSawing_16 : decode cX9_refusalOfSawing 16 = .ok (.getfield 26, 3) := by decide +kernel
theorem dX9_refusalOfSawing_19 : decode cX9_refusalOfSawing 19 = .ok (.invokevirtual 221, 3) := by decide +kernel
theorem dX9_refusalOfSawing_22 : decode cX9_refusalOfSawing 22 = .ok (.ifCond .eq 17, 3) := by decide +kernel
theorem dX9_refusalOfSawing_25 : decode cX9_refusalOfSawing 25 = .ok (.aload_n 0, 1) := by decide +kernel
theorem dX9_refusalOfSawing_26 : decode cX9_refusalOfSawing 26 = .ok (.getfield 26, 3) := by decide +kernel
theorem dX9_refusalOfSawing_29 : decode cX9_refusalOfSawing 29 = .ok (.aload_n 0, 1) := by decide +kernel
theorem dX9_refusalOfSawing_30 : decode cX9_refusalOfSawing 30 = .ok (.getfield 10, 3) := by decide +kernel
theorem dX9_refusalOfSawing_33 : decode cX9_refusalOfSawing 33 = .ok (.invokevirtual 155, 3) := by decide +kernel
theorem dX9_refusalOfSawing_36 : decode cX9_refusalOfSawing 36 = .ok (.ifCond .eq 8, 3) := by decide +kernel
theorem dX9_refusalOfSawing_39 : decode cX9_refusalOfSawing 39 = .ok (.ldc 225, 2) := by decide +kernel
theorem dX9_refusalOfSawing_41 : decode cX9_refusalOfSawing 41 = .ok (.goto 4, 3) := by decide +kernel
theorem dX9_refusalOfSawing_44 : decode cX9_refusalOfSawing 44 = .ok (.iconst 0, 1) := by decide +kernel
theorem dX9_refusalOfSawing_45 : decode cX9_refusalOfSawing 45 = .ok (.ireturn, 1) := by decide +kernel
theorem dX9_changeRow_0 : decode cX9_changeRow 0 = .ok (.aload_n 1, 1) := by decide +kernel
theorem dX9_changeRow_1 : decode cX9_changeRow 1 = .ok (.iload_n 2, 1) := by decide +kernel
theorem dX9_changeRow_2 : decode cX9_changeRow 2 = .ok (.invokestatic 165, 3) := by decide +kernel
theorem dX9_changeRow_5 : decode cX9_changeRow 5 = .ok (.istore 4, 2) := by decide +kernel
theorem dX9_changeRow_7 : decode cX9_changeRow 7 = .ok (.iload 4, 2) := by decide +kernel
theorem dX9_changeRow_9 : decode cX9_changeRow 9 = .ok (.iload_n 3, 1) := by decide +kernel
theorem dX9_changeRow_10 : decode cX9_changeRow 10 = .ok (.if_icmp .eq 20, 3) := by decide +kernel
theorem dX9_changeRow_13 : decode cX9_changeRow 13 = .ok (.aload_n 0, 1) := by decide +kernel
theorem dX9_changeRow_14 : decode cX9_changeRow 14 = .ok (.getfield 33, 3) := by decide +kernel
theorem dX9_changeRow_17 : decode cX9_changeRow 17 = .ok (.aload_n 0, 1) := by decide +kernel
theorem dX9_changeRow_18 : decode cX9_changeRow 18 = .ok (.getfield 26, 3) := by decide +kernel
theorem dX9_changeRow_21 : decode cX9_changeRow 21 = .ok (.invokevirtual 210, 3) := by decide +kernel
theorem dX9_changeRow_24 : decode cX9_changeRow 24 = .ok (.aload_n 1, 1) := by decide +kernel
theorem dX9_changeRow_25 : decode cX9_changeRow 25 = .ok (.iload_n 2, 1) := by decide +kernel
theorem dX9_changeRow_26 : decode cX9_changeRow 26 = .ok (.iload_n 3, 1) := by decide +kernel
theorem dX9_changeRow_27 : decode cX9_changeRow 27 = .ok (.invokestatic 327, 3) := by decide +kernel
theorem dX9_changeRow_30 : decode cX9_changeRow 30 = .ok (.iload 4, 2) := by decide +kernel
theorem dX9_changeRow_32 : decode cX9_changeRow 32 = .ok (.ireturn, 1) := by decide +kernel
theorem dX9_addCut_0 : decode cX9_addCut 0 = .ok (.iload_n 1, 1) := by decide +kernel
theorem dX9_addCut_1 : decode cX9_addCut 1 = .ok (.iconst 0, 1) := by decide +kernel
theorem dX9_addCut_2 : decode cX9_addCut 2 = .ok (.sipush 999, 3) := by decide +kernel
theorem dX9_addCut_5 : decode cX9_addCut 5 = .ok (.invokestatic 229, 3) := by decide +kernel
theorem dX9_addCut_8 : decode cX9_addCut 8 = .ok (.ifCond .ne 6, 3) := by decide +kernel
theorem dX9_addCut_11 : decode cX9_addCut 11 = .ok (.ldc 73, 2) := by decide +kernel
theorem dX9_addCut_13 : decode cX9_addCut 13 = .ok (.ireturn, 1) := by decide +kernel
theorem dX9_addCut_14 : decode cX9_addCut 14 = .ok (.aload_n 0, 1) := by decide +kernel
theorem dX9_addCut_15 : decode cX9_addCut 15 = .ok (.iload_n 1, 1) := by decide +kernel
theorem dX9_addCut_16 : decode cX9_addCut 16 = .ok (.invokevirtual 77, 3) := by decide +kernel
theorem dX9_addCut_19 : decode cX9_addCut 19 = .ok (.ifCond .eq 10, 3) := by decide +kernel
theorem dX9_addCut_22 : decode cX9_addCut 22 = .ok (.aload_n 0, 1) := by decide +kernel
theorem dX9_addCut_23 : decode cX9_addCut 23 = .ok (.getfield 81, 3) := by decide +kernel
theorem dX9_addCut_26 : decode cX9_addCut 26 = .ok (.goto 5, 3) := by decide +kernel
theorem dX9_addCut_29 : decode cX9_addCut 29 = .ok (.ldc 85, 2) := by decide +kernel
theorem dX9_addCut_31 : decode cX9_addCut 31 = .ok (.ireturn, 1) := by decide +kernel
theorem dX9_driftOnce_0 : decode cX9_driftOnce 0 = .ok (.aload_n 0, 1) := by decide +kernel
theorem dX9_driftOnce_1 : decode cX9_driftOnce 1 = .ok (.invokevirtual 331, 3) := by decide +kernel
theorem dX9_driftOnce_4 : decode cX9_driftOnce 4 = .ok (.lookupswitch 50 #[(0, 28), (1, 39)], 28) := by decide +kernel
theorem dX9_driftOnce_32 : decode cX9_driftOnce 32 = .ok (.aload_n 0, 1) := by decide +kernel
theorem dX9_driftOnce_33 : decode cX9_driftOnce 33 = .ok (.getfield 26, 3) := by decide +kernel
theorem dX9_driftOnce_36 : decode cX9_driftOnce 36 = .ok (.iconst 1, 1) := by decide +kernel
theorem dX9_driftOnce_37 : decode cX9_driftOnce 37 = .ok (.invokevirtual 218, 3) := by decide +kernel
theorem dX9_driftOnce_40 : decode cX9_driftOnce 40 = .ok (.goto 26, 3) := by decide +kernel
theorem dX9_driftOnce_43 : decode cX9_driftOnce 43 = .ok (.aload_n 0, 1) := by decide +kernel
theorem dX9_driftOnce_44 : decode cX9_driftOnce 44 = .ok (.getfield 26, 3) := by decide +kernel
theorem dX9_driftOnce_47 : decode cX9_driftOnce 47 = .ok (.iconst 0, 1) := by decide +kernel
theorem dX9_driftOnce_48 : decode cX9_driftOnce 48 = .ok (.putfield 137, 3) := by decide +kernel
theorem dX9_driftOnce_51 : decode cX9_driftOnce 51 = .ok (.goto 15, 3) := by decide +kernel
theorem dX9_driftOnce_54 : decode cX9_driftOnce 54 = .ok (.aload_n 0, 1) := by decide +kernel
theorem dX9_driftOnce_55 : decode cX9_driftOnce 55 = .ok (.getfield 26, 3) := by decide +kernel
theorem dX9_driftOnce_58 : decode cX9_driftOnce 58 = .ok (.aload_n 0, 1) := by decide +kernel
theorem dX9_driftOnce_59 : decode cX9_driftOnce 59 = .ok (.getfield 10, 3) := by decide +kernel
theorem dX9_driftOnce_62 : decode cX9_driftOnce 62 = .ok (.invokevirtual 214, 3) := by decide +kernel
theorem dX9_driftOnce_65 : decode cX9_driftOnce 65 = .ok (.pop, 1) := by decide +kernel
theorem dX9_driftOnce_66 : decode cX9_driftOnce 66 = .ok (.return_, 1) := by decide +kernel
theorem dX9_drawEighth_0 : decode cX9_drawEighth 0 = .ok (.aload_n 0, 1) := by decide +kernel
theorem dX9_drawEighth_1 : decode cX9_drawEighth 1 = .ok (.aload_n 0, 1) := by decide +kernel
theorem dX9_drawEighth_2 : decode cX9_drawEighth 2 = .ok (.getfield 318, 3) := by decide +kernel
theorem dX9_drawEighth_5 : decode cX9_drawEighth 5 = .ok (.ldc_w 335, 3) := by decide +kernel
theorem dX9_drawEighth_8 : decode cX9_drawEighth 8 = .ok (.imul, 1) := by decide +kernel
theorem dX9_drawEighth_9 : decode cX9_drawEighth 9 = .ok (.sipush 12345, 3) := by decide +kernel
theorem dX9_drawEighth_12 : decode cX9_drawEighth 12 = .ok (.iadd, 1) := by decide +kernel
theorem dX9_drawEighth_13 : decode cX9_drawEighth 13 = .ok (.ldc_w 336, 3) := by decide +kernel
theorem dX9_drawEighth_16 : decode cX9_drawEighth 16 = .ok (.iand, 1) := by decide +kernel
theorem dX9_drawEighth_17 : decode cX9_drawEighth 17 = .ok (.putfield 318, 3) := by decide +kernel
theorem dX9_drawEighth_20 : decode cX9_drawEighth 20 = .ok (.aload_n 0, 1) := by decide +kernel
theorem dX9_drawEighth_21 : decode cX9_drawEighth 21 = .ok (.getfield 318, 3) := by decide +kernel
theorem dX9_drawEighth_24 : decode cX9_drawEighth 24 = .ok (.ldc_w 337, 3) := by decide +kernel
theorem dX9_drawEighth_27 : decode cX9_drawEighth 27 = .ok (.idiv, 1) := by decide +kernel
theorem dX9_drawEighth_28 : decode cX9_drawEighth 28 = .ok (.bipush 8, 2) := by decide +kernel
theorem dX9_drawEighth_30 : decode cX9_drawEighth 30 = .ok (.irem, 1) := by decide +kernel
theorem dX9_drawEighth_31 : decode cX9_drawEighth 31 = .ok (.ireturn, 1) := by decide +kernel
theorem dX10_init_0 : decode cX10_init 0 = .ok (.aload_n 0, 1) := by decide +kernel
theorem dX10_init_1 : decode cX10_init 1 = .ok (.invokespecial 1, 3) := by decide +kernel
theorem dX10_init_4 : decode cX10_init 4 = .ok (.aload_n 0, 1) := by decide +kernel
theorem dX10_init_5 : decode cX10_init 5 = .ok (.sipush 952, 3) := by decide +kernel
theorem dX10_init_8 : decode cX10_init 8 = .ok (.newarray .int, 2) := by decide +kernel
theorem dX10_init_10 : decode cX10_init 10 = .ok (.putfield 7, 3) := by decide +kernel
theorem dX10_init_13 : decode cX10_init 13 = .ok (.aload_n 0, 1) := by decide +kernel
theorem dX10_init_14 : decode cX10_init 14 = .ok (.iconst 2, 1) := by decide +kernel
theorem dX10_init_15 : decode cX10_init 15 = .ok (.newarray .boolean, 2) := by decide +kernel
theorem dX10_init_17 : decode cX10_init 17 = .ok (.putfield 13, 3) := by decide +kernel
theorem dX10_init_20 : decode cX10_init 20 = .ok (.aload_n 0, 1) := by decide +kernel
theorem dX10_init_21 : decode cX10_init 21 = .ok (.bipush 24, 2) := by decide +kernel
theorem dX10_init_23 : decode cX10_init 23 = .ok (.newarray .int, 2) := by decide +kernel
theorem dX10_init_25 : decode cX10_init 25 = .ok (.putfield 17, 3) := by decide +kernel
theorem dX10_init_28 : decode cX10_init 28 = .ok (.aload_n 0, 1) := by decide +kernel
theorem dX10_init_29 : decode cX10_init 29 = .ok (.bipush 8, 2) := by decide +kernel
theorem dX10_init_31 : decode cX10_init 31 = .ok (.newarray .int, 2) := by decide +kernel
theorem dX10_init_33 : decode cX10_init 33 = .ok (.putfield 20, 3) := by decide +kernel
theorem dX10_init_36 : decode cX10_init 36 = .ok (.aload_n 0, 1) := by decide +kernel
theorem dX10_init_37 : decode cX10_init 37 = .ok (.bipush 8, 2) := by decide +kernel
theorem dX10_init_39 : decode cX10_init 39 = .ok (.newarray .int, 2) := by decide +kernel
theorem dX10_init_41 : decode cX10_init 41 = .ok (.putfield 23, 3) := by decide +kernel
theorem dX10_init_44 : decode cX10_init 44 = .ok (.aload_n 0, 1) := by decide +kernel
theorem dX10_init_45 : decode cX10_init 45 = .ok (.bipush 8, 2) := by decide +kernel
theorem dX10_init_47 : decode cX10_init 47 = .ok (.newarray .int, 2) := by decide +kernel
theorem dX10_init_49 : decode cX10_init 49 = .ok (.putfield 26, 3) := by decide +kernel
theorem dX10_init_52 : decode cX10_init 52 = .ok (.aload_n 0, 1) := by decide +kernel
theorem dX10_init_53 : decode cX10_init 53 = .ok (.bipush 8, 2) := by decide +kernel
theorem dX10_init_55 : decode cX10_init 55 = .ok (.newarray .int, 2) := by decide +kernel
theorem dX10_init_57 : decode cX10_init 57 = .ok (.putfield 29, 3) := by decide +kernel
theorem dX10_init_60 : decode cX10_init 60 = .ok (.aload_n 0, 1) := by decide +kernel
theorem dX10_init_61 : decode cX10_init 61 = .ok (.bipush 8, 2) := by decide +kernel
theorem dX10_init_63 : decode cX10_init 63 = .ok (.newarray .int, 2) := by decide +kernel
theorem dX10_init_65 : decode cX10_init 65 = .ok (.putfield 32, 3) := by decide +kernel
theorem dX10_init_68 : decode cX10_init 68 = .ok (.aload_n 0, 1) := by decide +kernel
theorem dX10_init_69 : decode cX10_init 69 = .ok (.sipush 250, 3) := by decide +kernel
theorem dX10_init_72 : decode cX10_init 72 = .ok (.newarray .int, 2) := by decide +kernel
theorem dX10_init_74 : decode cX10_init 74 = .ok (.putfield 35, 3) := by decide +kernel
theorem dX10_init_77 : decode cX10_init 77 = .ok (.aload_n 0, 1) := by decide +kernel
theorem dX10_init_78 : decode cX10_init 78 = .ok (.iconst (-1), 1) := by decide +kernel
theorem dX10_init_79 : decode cX10_init 79 = .ok (.putfield 38, 3) := by decide +kernel
theorem dX10_init_82 : decode cX10_init 82 = .ok (.aload_n 0, 1) := by decide +kernel
theorem dX10_init_83 : decode cX10_init 83 = .ok (.sipush 1204, 3) := by decide +kernel
theorem dX10_init_86 : decode cX10_init 86 = .ok (.newarray .int, 2) := by decide +kernel
theorem dX10_init_88 : decode cX10_init 88 = .ok (.putfield 42, 3) := by decide +kernel
theorem dX10_init_91 : decode cX10_init 91 = .ok (.aload_n 0, 1) := by decide +kernel
theorem dX10_init_92 : decode cX10_init 92 = .ok (.sipush 1204, 3) := by decide +kernel
theorem dX10_init_95 : decode cX10_init 95 = .ok (.newarray .int, 2) := by decide +kernel
theorem dX10_init_97 : decode cX10_init 97 = .ok (.putfield 45, 3) := by decide +kernel
theorem dX10_init_100 : decode cX10_init 100 = .ok (.aload_n 0, 1) := by decide +kernel
theorem dX10_init_101 : decode cX10_init 101 = .ok (.sipush 1204, 3) := by decide +kernel
theorem dX10_init_104 : decode cX10_init 104 = .ok (.newarray .int, 2) := by decide +kernel
theorem dX10_init_106 : decode cX10_init 106 = .ok (.putfield 48, 3) := by decide +kernel
theorem dX10_init_109 : decode cX10_init 109 = .ok (.aload_n 0, 1) := by decide +kernel
theorem dX10_init_110 : decode cX10_init 110 = .ok (.sipush 1204, 3) := by decide +kernel
theorem dX10_init_113 : decode cX10_init 113 = .ok (.newarray .int, 2) := by decide +kernel
theorem dX10_init_115 : decode cX10_init 115 = .ok (.putfield 51, 3) := by decide +kernel
theorem dX10_init_118 : decode cX10_init 118 = .ok (.aload_n 0, 1) := by decide +kernel
theorem dX10_init_119 : decode cX10_init 119 = .ok (.bipush 8, 2) := by decide +kernel
theorem dX10_init_121 : decode cX10_init 121 = .ok (.newarray .int, 2) := by decide +kernel
theorem dX10_init_123 : decode cX10_init 123 = .ok (.putfield 54, 3) := by decide +kernel
theorem dX10_init_126 : decode cX10_init 126 = .ok (.aload_n 0, 1) := by decide +kernel
theorem dX10_init_127 : decode cX10_init 127 = .ok (.bipush 20, 2) := by decide +kernel
theorem dX10_init_129 : decode cX10_init 129 = .ok (.newarray .int, 2) := by decide +kernel
theorem dX10_init_131 : decode cX10_init 131 = .ok (.putfield 57, 3) := by decide +kernel
theorem dX10_init_134 : decode cX10_init 134 = .ok (.aload_n 0, 1) := by decide +kernel
theorem dX10_init_135 : decode cX10_init 135 = .ok (.iconst 2, 1) := by decide +kernel
theorem dX10_init_136 : decode cX10_init 136 = .ok (.putfield 60, 3) := by decide +kernel
theorem dX10_init_139 : decode cX10_init 139 = .ok (.aload_n 0, 1) := by decide +kernel
theorem dX10_init_140 : decode cX10_init 140 = .ok (.bipush 12, 2) := by decide +kernel
theorem dX10_init_142 : decode cX10_init 142 = .ok (.putfield 63, 3) := by decide +kernel
theorem dX10_init_145 : decode cX10_init 145 = .ok (.aload_n 0, 1) := by decide +kernel
theorem dX10_init_146 : decode cX10_init 146 = .ok (.getfield 7, 3) := by decide +kernel
theorem dX10_init_149 : decode cX10_init 149 = .ok (.bipush 16, 2) := by decide +kernel
theorem dX10_init_151 : decode cX10_init 151 = .ok (.iconst (-1), 1) := by decide +kernel
theorem dX10_init_152 : decode cX10_init 152 = .ok (.iastore, 1) := by decide +kernel
theorem dX10_init_153 : decode cX10_init 153 = .ok (.aload_n 0, 1) := by decide +kernel
theorem dX10_init_154 : decode cX10_init 154 = .ok (.getfield 7, 3) := by decide +kernel
theorem dX10_init_157 : decode cX10_init 157 = .ok (.bipush 17, 2) := by decide +kernel
theorem dX10_init_159 : decode cX10_init 159 = .ok (.iconst (-1), 1) := by decide +kernel
theorem dX10_init_160 : decode cX10_init 160 = .ok (.iastore, 1) := by decide +kernel
theorem dX10_init_161 : decode cX10_init 161 = .ok (.aload_n 0, 1) := by decide +kernel
theorem dX10_init_162 : decode cX10_init 162 = .ok (.getfield 7, 3) := by decide +kernel
theorem dX10_init_165 : decode cX10_init 165 = .ok (.bipush 18, 2) := by decide +kernel
theorem dX10_init_167 : decode cX10_init 167 = .ok (.iconst (-1), 1) := by decide +kernel
theorem dX10_init_168 : decode cX10_init 168 = .ok (.iastore, 1) := by decide +kernel
theorem dX10_init_169 : decode cX10_init 169 = .ok (.aload_n 0, 1) := by decide +kernel
theorem dX10_init_170 : decode cX10_init 170 = .ok (.getfield 7, 3) := by decide +kernel
theorem dX10_init_173 : decode cX10_init 173 = .ok (.bipush 24, 2) := by decide +kernel
theorem dX10_init_175 : decode cX10_init 175 = .ok (.iconst 5, 1) := by decide +kernel
theorem dX10_init_176 : decode cX10_init 176 = .ok (.iastore, 1) := by decide +kernel
theorem dX10_init_177 : decode cX10_init 177 = .ok (.return_, 1) := by decide +kernel
theorem dX10_in_0 : decode cX10_in 0 = .ok (.lload_n 0, 1) := by decide +kernel
theorem dX10_in_1 : decode cX10_in 1 = .ok (.lload_n 2, 1) := by decide +kernel
theorem dX10_in_2 : decode cX10_in 2 = .ok (.lcmp, 1) := by decide +kernel
theorem dX10_in_3 : decode cX10_in 3 = .ok (.ifCond .lt 14, 3) := by decide +kernel
theorem dX10_in_6 : decode cX10_in 6 = .ok (.lload_n 0, 1) := by decide +kernel
theorem dX10_in_7 : decode cX10_in 7 = .ok (.lload 4, 2) := by decide +kernel
theorem dX10_in_9 : decode cX10_in 9 = .ok (.lcmp, 1) := by decide +kernel
theorem dX10_in_10 : decode cX10_in 10 = .ok (.ifCond .gt 7, 3) := by decide +kernel
theorem dX10_in_13 : decode cX10_in 13 = .ok (.iconst 1, 1) := by decide +kernel
theorem dX10_in_14 : decode cX10_in 14 = .ok (.goto 4, 3) := by decide +kernel
theorem dX10_in_17 : decode cX10_in 17 = .ok (.iconst 0, 1) := by decide +kernel
theorem dX10_in_18 : decode cX10_in 18 = .ok (.ireturn, 1) := by decide +kernel
theorem dX10_one_0 : decode cX10_one 0 = .ok (.iload_n 0, 1) := by decide +kernel
theorem dX10_one_1 : decode cX10_one 1 = .ok (.ifCond .eq 7, 3) := by decide +kernel
theorem dX10_one_4 : decode cX10_one 4 = .ok (.iconst 1, 1) := by decide +kernel
theorem dX10_one_5 : decode cX10_one 5 = .ok (.goto 4, 3) := by decide +kernel
theorem dX10_one_8 : decode cX10_one 8 = .ok (.iconst 0, 1) := by decide +kernel
theorem dX10_one_9 : decode cX10_one 9 = .ok (.ireturn, 1) := by decide +kernel
theorem dX10_has_0 : decode cX10_has 0 = .ok (.iload_n 0, 1) := by decide +kernel
theorem dX10_has_1 : decode cX10_has 1 = .ok (.iload_n 1, 1) := by decide +kernel
theorem dX10_has_2 : decode cX10_has 2 = .ok (.ishr, 1) := by decide +kernel
theorem dX10_has_3 : decode cX10_has 3 = .ok (.iconst 1, 1) := by decide +kernel
theorem dX10_has_4 : decode cX10_has 4 = .ok (.iand, 1) := by decide +kernel
theorem dX10_has_5 : decode cX10_has 5 = .ok (.iconst 1, 1) := by decide +kernel
theorem dX10_has_6 : decode cX10_has 6 = .ok (.if_icmp .ne 7, 3) := by decide +kernel
theorem dX10_has_9 : decode cX10_has 9 = .ok (.iconst 1, 1) := by decide +kernel
theorem dX10_has_10 : decode cX10_has 10 = .ok (.goto 4, 3) := by decide +kernel
theorem dX10_has_13 : decode cX10_has 13 = .ok (.iconst 0, 1) := by decide +kernel
theorem dX10_has_14 : decode cX10_has 14 = .ok (.ireturn, 1) := by decide +kernel
theorem dX10_feed_0 : decode cX10_feed 0 = .ok (.iload_n 1, 1) := by decide +kernel
theorem dX10_feed_1 : decode cX10_feed 1 = .ok (.i2l, 1) := by decide +kernel
theorem dX10_feed_2 : decode cX10_feed 2 = .ok (.lconst 0, 1) := by decide +kernel
theorem dX10_feed_3 : decode cX10_feed 3 = .ok (.ldc2_w 66, 3) := by decide +kernel
theorem dX10_feed_6 : decode cX10_feed 6 = .ok (.invokestatic 68, 3) := by decide +kernel
theorem dX10_feed_9 : decode cX10_feed 9 = .ok (.ifCond .ne 6, 3) := by decide +kernel
theorem dX10_feed_12 : decode cX10_feed 12 = .ok (.ldc 72, 2) := by decide +kernel
theorem dX10_feed_14 : decode cX10_feed 14 = .ok (.ireturn, 1) := by decide +kernel
theorem dX10_feed_15 : decode cX10_feed 15 = .ok (.aload_n 0, 1) := by decide +kernel
theorem dX10_feed_16 : decode cX10_feed 16 = .ok (.getfield 73, 3) := by decide +kernel
theorem dX10_feed_19 : decode cX10_feed 19 = .ok (.sipush 250, 3) := by decide +kernel
theorem dX10_feed_22 : decode cX10_feed 22 = .ok (.if_icmp .ne 6, 3) := by decide +kernel
theorem dX10_feed_25 : decode cX10_feed 25 = .ok (.ldc 76, 2) := by decide +kernel
theorem dX10_feed_27 : decode cX10_feed 27 = .ok (.ireturn, 1) := by decide +kernel
theorem dX10_feed_28 : decode cX10_feed 28 = .ok (.aload_n 0, 1) := by decide +kernel
theorem dX10_feed_29 : decode cX10_feed 29 = .ok (.getfield 35, 3) := by decide +kernel
theorem dX10_feed_32 : decode cX10_feed 32 = .ok (.aload_n 0, 1) := by decide +kernel
theorem dX10_feed_33 : decode cX10_feed 33 = .ok (.getfield 73, 3) := by decide +kernel
theorem dX10_feed_36 : decode cX10_feed 36 = .ok (.iload_n 1, 1) := by decide +kernel
theorem dX10_feed_37 : decode cX10_feed 37 = .ok (.iastore, 1) := by decide +kernel
theorem dX10_feed_38 : decode cX10_feed 38 = .ok (.aload_n 0, 1) := by decide +kernel
theorem dX10_feed_39 : decode cX10_feed 39 = .ok (.dup, 1) := by decide +kernel
theorem dX10_feed_40 : decode cX10_feed 40 = .ok (.getfield 73, 3) := by decide +kernel
theorem dX10_feed_43 : decode cX10_feed 43 = .ok (.iconst 1, 1) := by decide +kernel
theorem dX10_feed_44 : decode cX10_feed 44 = .ok (.iadd, 1) := by decide +kernel
theorem dX10_feed_45 : decode cX10_feed 45 = .ok (.putfield 73, 3) := by decide +kernel
theorem dX10_feed_48 : decode cX10_feed 48 = .ok (.aload_n 0, 1) := by decide +kernel
theorem dX10_feed_49 : decode cX10_feed 49 = .ok (.getfield 73, 3) := by decide +kernel
theorem dX10_feed_52 : decode cX10_feed 52 = .ok (.ireturn, 1) := by decide +kernel
theorem dX10_here_0 : decode cX10_here 0 = .ok (.aload_n 0, 1) := by decide +kernel
theorem dX10_here_1 : decode cX10_here 1 = .ok (.getfield 77, 3) := by decide +kernel
theorem dX10_here_4 : decode cX10_here 4 = .ok (.aload_n 0, 1) := by decide +kernel
theorem dX10_here_5 : decode cX10_here 5 = .ok (.getfield 73, 3) := by decide +kernel
theorem dX10_here_8 : decode cX10_here 8 = .ok (.if_icmp .ge 30, 3) := by decide +kernel
theorem dX10_here_11 : decode cX10_here 11 = .ok (.aload_n 0, 1) := by decide +kernel
theorem dX10_here_12 : decode cX10_here 12 = .ok (.getfield 35, 3) := by decide +kernel
theorem dX10_here_15 : decode cX10_here 15 = .ok (.aload_n 0, 1) := by decide +kernel
theorem dX10_here_16 : decode cX10_here 16 = .ok (.getfield 77, 3) := by decide +kernel
theorem dX10_here_19 : decode cX10_here 19 = .ok (.iaload, 1) := by decide +kernel
theorem dX10_here_20 : decode cX10_here 20 = .ok (.bipush 32, 2) := by decide +kernel
theorem dX10_here_22 : decode cX10_here 22 = .ok (.if_icmp .ne 16, 3) := by decide +kernel
theorem dX10_here_25 : decode cX10_here 25 = .ok (.aload_n 0, 1) := by decide +kernel
theorem dX10_here_26 : decode cX10_here 26 = .ok (.dup, 1) := by decide +kernel
theorem dX10_here_27 : decode cX10_here 27 = .ok (.getfield 77, 3) := by decide +kernel
theorem dX10_here_30 : decode cX10_here 30 = .ok (.iconst 1, 1) := by decide +kernel
theorem dX10_here_31 : decode cX10_here 31 = .ok (.iadd, 1) := by decide +kernel
theorem dX10_here_32 : decode cX10_here 32 = .ok (.putfield 77, 3) := by decide +kernel
theorem dX10_here_35 : decode cX10_here 35 = .ok (.goto (-35), 3) := by decide +kernel
theorem dX10_here_38 : decode cX10_here 38 = .ok (.aload_n 0, 1) := by decide +kernel
theorem dX10_here_39 : decode cX10_here 39 = .ok (.getfield 77, 3) := by decide +kernel
theorem dX10_here_42 : decode cX10_here 42 = .ok (.aload_n 0, 1) := by decide +kernel
theorem dX10_here_43 : decode cX10_here 43 = .ok (.getfield 73, 3) := by decide +kernel
theorem dX10_here_46 : decode cX10_here 46 = .ok (.if_icmp .ge 15, 3) := by decide +kernel
theorem dX10_here_49 : decode cX10_here 49 = .ok (.aload_n 0, 1) := by decide +kernel
theorem dX10_here_50 : decode cX10_here 50 = .ok (.getfield 35, 3) := by decide +kernel
theorem dX10_here_53 : decode cX10_here 53 = .ok (.aload_n 0, 1) := by decide +kernel
theorem dX10_here_54 : decode cX10_here 54 = .ok (.getfield 77, 3) := by decide +kernel
theorem dX10_here_57 : decode cX10_here 57 = .ok (.iaload, 1) := by decide +kernel
theorem dX10_here_58 : decode cX10_here 58 = .ok (.goto 4, 3) := by decide +kernel
theorem dX10_here_61 : decode cX10_here 61 = .ok (.iconst (-1), 1) := by decide +kernel
theorem dX10_here_62 : decode cX10_here 62 = .ok (.ireturn, 1) := by decide +kernel
theorem dX10_want_0 : decode cX10_want 0 = .ok (.iload_n 1, 1) := by decide +kernel
theorem dX10_want_1 : decode cX10_want 1 = .ok (.ifCond .ne 20, 3) := by decide +kernel
theorem dX10_want_4 : decode cX10_want 4 = .ok (.aload_n 0, 1) := by decide +kernel
theorem dX10_want_5 : decode cX10_want 5 = .ok (.getfield 80, 3) := by decide +kernel
theorem dX10_want_8 : decode cX10_want 8 = .ok (.ifCond .ne 13, 3) := by decide +kernel
theorem dX10_want_11 : decode cX10_want 11 = .ok (.aload_n 0, 1) := by decide +kernel
theorem dX10_want_12 : decode cX10_want 12 = .ok (.iload_n 2, 1) := by decide +kernel
theorem dX10_want_13 : decode cX10_want 13 = .ok (.putfield 80, 3) := by decide +kernel
theorem dX10_want_16 : decode cX10_want 16 = .ok (.aload_n 0, 1) := by decide +kernel
theorem dX10_want_17 : decode cX10_want 17 = .ok (.iload_n 3, 1) := by decide +kernel
theorem dX10_want_18 : decode cX10_want 18 = .ok (.putfield 38, 3) := by decide +kernel
theorem dX10_want_21 : decode cX10_want 21 = .ok (.aload_n 0, 1) := by decide +kernel
theorem dX10_want_22 : decode cX10_want 22 = .ok (.getfield 80, 3) := by decide +kernel
theorem dX10_want_25 : decode cX10_want 25 = .ok (.ifCond .ne 7, 3) := by decide +kernel
theorem dX10_want_28 : decode cX10_want 28 = .ok (.iconst 1, 1) := by decide +kernel
theorem dX10_want_29 : decode cX10_want 29 = .ok (.goto 4, 3) := by decide +kernel
theorem dX10_want_32 : decode cX10_want 32 = .ok (.iconst 0, 1) := by decide +kernel
theorem dX10_want_33 : decode cX10_want 33 = .ok (.ireturn, 1) := by decide +kernel
theorem dX10_takeNumber_0 : decode cX10_takeNumber 0 = .ok (.aload_n 0, 1) := by decide +kernel
theorem dX10_takeNumber_1 : decode cX10_takeNumber 1 = .ok (.getfield 80, 3) := by decide +kernel
theorem dX10_takeNumber_4 : decode cX10_takeNumber 4 = .ok (.ifCond .le 5, 3) := by decide +kernel
theorem dX10_takeNumber_7 : decode cX10_takeNumber 7 = .ok (.iconst 0, 1) := by decide +kernel
theorem dX10_takeNumber_8 : decode cX10_takeNumber 8 = .ok (.ireturn, 1) := by decide +kernel
theorem dX10_takeNumber_9 : decode cX10_takeNumber 9 = .ok (.aload_n 0, 1) := by decide +kernel
theorem dX10_takeNumber_10 : decode cX10_takeNumber 10 = .ok (.invokevirtual 83, 3) := by decide +kernel
theorem dX10_takeNumber_13 : decode cX10_takeNumber 13 = .ok (.istore_n 3, 1) := by decide +kernel
theorem dX10_takeNumber_14 : decode cX10_takeNumber 14 = .ok (.aload_n 0, 1) := by decide +kernel
theorem dX10_takeNumber_15 : decode cX10_takeNumber 15 = .ok (.aload_n 0, 1) := by decide +kernel
theorem dX10_takeNumber_16 : decode cX10_takeNumber 16 = .ok (.getfield 77, 3) := by decide +kernel
theorem dX10_takeNumber_19 : decode cX10_takeNumber 19 = .ok (.putfield 87, 3) := by decide +kernel
theorem dX10_takeNumber_22 : decode cX10_takeNumber 22 = .ok (.aload_n 0, 1) := by decide +kernel
theorem dX10_takeNumber_23 : decode cX10_takeNumber 23 = .ok (.iload_n 3, 1) := by decide +kernel
theorem dX10_takeNumber_24 : decode cX10_takeNumber 24 = .ok (.i2l, 1) := by decide +kernel
theorem dX10_takeNumber_25 : decode cX10_takeNumber 25 = .ok (.ldc2_w 90, 3) := by decide +kernel
theorem dX10_takeNumber_28 : decode cX10_takeNumber 28 = .ok (.ldc2_w 92, 3) := by decide +kernel
theorem dX10_takeNumber_31 : decode cX10_takeNumber 31 = .ok (.invokestatic 68, 3) := by decide +kernel
theorem dX10_takeNumber_34 : decode cX10_takeNumber 34 = .ok (.iconst 1, 1) := by decide +kernel
theorem dX10_takeNumber_35 : decode cX10_takeNumber 35 = .ok (.aload_n 0, 1) := by decide +kernel
theorem dX10_takeNumber_36 : decode cX10_takeNumber 36 = .ok (.getfield 77, 3) := by decide +kernel
theorem dX10_takeNumber_39 : decode cX10_takeNumber 39 = .ok (.invokevirtual 94, 3) := by decide +kernel
theorem dX10_takeNumber_42 : decode cX10_takeNumber 42 = .ok (.ifCond .ne 5, 3) := by decide +kernel
theorem dX10_takeNumber_45 : decode cX10_takeNumber 45 = .ok (.iconst 0, 1) := by decide +kernel
theorem dX10_takeNumber_46 : decode cX10_takeNumber 46 = .ok (.ireturn, 1) := by decide +kernel
theorem dX10_takeNumber_47 : decode cX10_takeNumber 47 = .ok (.iconst 0, 1) := by decide +kernel
theorem dX10_takeNumber_48 : decode cX10_takeNumber 48 = .ok (.istore 4, 2) := by decide +kernel
theorem dX10_takeNumber_50 : decode cX10_takeNumber 50 = .ok (.aload_n 0, 1) := by decide +kernel
theorem dX10_takeNumber_51 : decode cX10_takeNumber 51 = .ok (.getfield 77, 3) := by decide +kernel
theorem dX10_takeNumber_54 : decode cX10_takeNumber 54 = .ok (.aload_n 0, 1) := by decide +kernel
theorem dX10_takeNumber_55 : decode cX10_takeNumber 55 = .ok (.getfield 73, 3) := by decide +kernel
theorem dX10_takeNumber_58 : decode cX10_takeNumber 58 = .ok (.if_icmp .ge 70, 3) := by decide +kernel
theorem dX10_takeNumber_61 : decode cX10_takeNumber 61 = .ok (.aload_n 0, 1) := by decide +kernel
theorem dX10_takeNumber_62 : decode cX10_takeNumber 62 = .ok (.getfield 35, 3) := by decide +kernel
theorem dX10_takeNumber_65 : decode cX10_takeNumber 65 = .ok (.aload_n 0, 1) := by decide +kernel
theorem dX10_takeNumber_66 : decode cX10_takeNumber 66 = .ok (.getfield 77, 3) := by decide +kernel
theorem dX10_takeNumber_69 : decode cX10_takeNumber 69 = .ok (.iaload, 1) := by decide +kernel
theorem dX10_takeNumber_70 : decode cX10_takeNumber 70 = .ok (.i2l, 1) := by decide +kernel
theorem dX10_takeNumber_71 : decode cX10_takeNumber 71 = .ok (.ldc2_w 90, 3) := by decide +kernel
theorem dX10_takeNumber_74 : decode cX10_takeNumber 74 = .ok (.ldc2_w 92, 3) := by decide +kernel
theorem dX10_takeNumber_77 : decode cX10_takeNumber 77 = .ok (.invokestatic 68, 3) := by decide +kernel
theorem dX10_takeNumber_80 : decode cX10_takeNumber 80 = .ok (.ifCond .eq 48, 3) := by decide +kernel
theorem dX10_takeNumber_83 : decode cX10_takeNumber 83 = .ok (.iload 4, 2) := by decide +kernel
theorem dX10_takeNumber_85 : decode cX10_takeNumber 85 = .ok (.ldc 98, 2) := by decide +kernel
theorem dX10_takeNumber_87 : decode cX10_takeNumber 87 = .ok (.if_icmp .le 8, 3) := by decide +kernel
theorem dX10_takeNumber_90 : decode cX10_takeNumber 90 = .ok (.iload 4, 2) := by decide +kernel
theorem dX10_takeNumber_92 : decode cX10_takeNumber 92 = .ok (.goto 21, 3) := by decide +kernel
theorem dX10_takeNumber_95 : decode cX10_takeNumber 95 = .ok (.bipush 10, 2) := by decide +kernel
theorem dX10_takeNumber_97 : decode cX10_takeNumber 97 = .ok (.iload 4, 2) := by decide +kernel
theorem dX10_takeNumber_99 : decode cX10_takeNumber 99 = .ok (.imul, 1) := by decide +kernel
theorem dX10_takeNumber_100 : decode cX10_takeNumber 100 = .ok (.aload_n 0, 1) := by decide +kernel
theorem dX10_takeNumber_101 : decode cX10_takeNumber 101 = .ok (.getfield 35, 3) := by decide +kernel
theorem dX10_takeNumber_104 : decode cX10_takeNumber 104 = .ok (.aload_n 0, 1) := by decide +kernel
theorem dX10_takeNumber_105 : decode cX10_takeNumber 105 = .ok (.getfield 77, 3) := by decide +kernel
theorem dX10_takeNumber_108 : decode cX10_takeNumber 108 = .ok (.iaload, 1) := by decide +kernel
theorem dX10_takeNumber_109 : decode cX10_takeNumber 109 = .ok (.iadd, 1) := by decide +kernel
theorem dX10_takeNumber_110 : decode cX10_takeNumber 110 = .ok (.bipush 48, 2) := by decide +kernel
theorem dX10_takeNumber_112 : decode cX10_takeNumber 112 = .ok (.isub, 1) := by decide +kernel
theorem dX10_takeNumber_113 : decode cX10_takeNumber 113 = .ok (.istore 4, 2) := by decide +kernel
theorem dX10_takeNumber_115 : decode cX10_takeNumber 115 = .ok (.aload_n 0, 1) := by decide +kernel
theorem dX10_takeNumber_116 : decode cX10_takeNumber 116 = .ok (.dup, 1) := by decide +kernel
theorem dX10_takeNumber_117 : decode cX10_takeNumber 117 = .ok (.getfield 77, 3) := by decide +kernel
theorem dX10_takeNumber_120 : decode cX10_takeNumber 120 = .ok (.iconst 1, 1) := by decide +kernel
theorem dX10_takeNumber_121 : decode cX10_takeNumber 121 = .ok (.iadd, 1) := by decide +kernel
theorem dX10_takeNumber_122 : decode cX10_takeNumber 122 = .ok (.putfield 77, 3) := by decide +kernel
theorem dX10_takeNumber_125 : decode cX10_takeNumber 125 = .ok (.goto (-75), 3) := by decide +kernel
theorem dX10_takeNumber_128 : decode cX10_takeNumber 128 = .ok (.aload_n 0, 1) := by decide +kernel
theorem dX10_takeNumber_129 : decode cX10_takeNumber 129 = .ok (.aload_n 0, 1) := by decide +kernel
theorem dX10_takeNumber_130 : decode cX10_takeNumber 130 = .ok (.getfield 77, 3) := by decide +kernel
theorem dX10_takeNumber_133 : decode cX10_takeNumber 133 = .ok (.aload_n 0, 1) := by decide +kernel
theorem dX10_takeNumber_134 : decode cX10_takeNumber 134 = .ok (.getfield 87, 3) := by decide +kernel
theorem dX10_takeNumber_137 : decode cX10_takeNumber 137 = .ok (.isub, 1) := by decide +kernel
theorem dX10_takeNumber_138 : decode cX10_takeNumber 138 = .ok (.iconst 4, 1) := by decide +kernel
theorem dX10_takeNumber_139 : decode cX10_takeNumber 139 = .ok (.if_icmp .ge 20, 3) := by decide +kernel
theorem dX10_takeNumber_142 : decode cX10_takeNumber 142 = .ok (.iload 4, 2) := by decide +kernel
theorem dX10_takeNumber_144 : decode cX10_takeNumber 144 = .ok (.i2l, 1) := by decide +kernel
theorem dX10_takeNumber_145 : decode cX10_takeNumber 145 = .ok (.iload_n 1, 1) := by decide +kernel
theorem dX10_takeNumber_146 : decode cX10_takeNumber 146 = .ok (.i2l, 1) := by decide +kernel
theorem dX10_takeNumber_147 : decode cX10_takeNumber 147 = .ok (.iload_n 2, 1) := by decide +kernel
theorem dX10_takeNumber_148 : decode cX10_takeNumber 148 = .ok (.i2l, 1) := by decide +kernel
theorem dX10_takeNumber_149 : decode cX10_takeNumber 149 = .ok (.invokestatic 68, 3) := by decide +kernel
theorem dX10_takeNumber_152 : decode cX10_takeNumber 152 = .ok (.ifCond .eq 7, 3) := by decide +kernel
theorem dX10_takeNumber_155 : decode cX10_takeNumber 155 = .ok (.iconst 1, 1) := by decide +kernel
theorem dX10_takeNumber_156 : decode cX10_takeNumber 156 = .ok (.goto 4, 3) := by decide +kernel
theorem dX10_takeNumber_159 : decode cX10_takeNumber 159 = .ok (.iconst 0, 1) := by decide +kernel
theorem dX10_takeNumber_160 : decode cX10_takeNumber 160 = .ok (.iconst 2, 1) := by decide +kernel
theorem dX10_takeNumber_161 : decode cX10_takeNumber 161 = .ok (.aload_n 0, 1) := by decide +kernel
theorem dX10_takeNumber_162 : decode cX10_takeNumber 162 = .ok (.getfield 87, 3) := by decide +kernel
theorem dX10_takeNumber_165 : decode cX10_takeNumber 165 = .ok (.invokevirtual 94, 3) := by decide +kernel
theorem dX10_takeNumber_168 : decode cX10_takeNumber 168 = .ok (.istore 5, 2) := by decide +kernel
theorem dX10_takeNumber_170 : decode cX10_takeNumber 170 = .ok (.iload 4, 2) := by decide +kernel
theorem dX10_takeNumber_172 : decode cX10_takeNumber 172 = .ok (.ireturn, 1) := by decide +kernel
theorem dX10_takeLog_0 : decode cX10_takeLog 0 = .ok (.iconst 1, 1) := by decide +kernel
theorem dX10_takeLog_1 : decode cX10_takeLog 1 = .ok (.istore_n 1, 1) := by decide +kernel
theorem dX10_takeLog_2 : decode cX10_takeLog 2 = .ok (.iload_n 1, 1) := by decide +kernel
theorem dX10_takeLog_3 : decode cX10_takeLog 3 = .ok (.ifCond .eq 104, 3) := by decide +kernel
theorem dX10_takeLog_6 : decode cX10_takeLog 6 = .ok (.aload_n 0, 1) := by decide +kernel
theorem dX10_takeLog_7 : decode cX10_takeLog 7 = .ok (.getfield 80, 3) := by decide +kernel
theorem dX10_takeLog_10 : decode cX10_takeLog 10 = .ok (.ifCond .ne 97, 3) := by decide +kernel
theorem dX10_takeLog_13 : decode cX10_takeLog 13 = .ok (.aload_n 0, 1) := by decide +kernel
theorem dX10_takeLog_14 : decode cX10_takeLog 14 = .ok (.getfield 17, 3) := by decide +kernel
theorem dX10_takeLog_17 : decode cX10_takeLog 17 = .ok (.bipush 12, 2) := by decide +kernel
theorem dX10_takeLog_19 : decode cX10_takeLog 19 = .ok (.aload_n 0, 1) := by decide +kernel
theorem dX10_takeLog_20 : decode cX10_takeLog 20 = .ok (.getfield 99, 3) := by decide +kernel
theorem dX10_takeLog_23 : decode cX10_takeLog 23 = .ok (.iadd, 1) := by decide +kernel
theorem dX10_takeLog_24 : decode cX10_takeLog 24 = .ok (.aload_n 0, 1) := by decide +kernel
theorem dX10_takeLog_25 : decode cX10_takeLog 25 = .ok (.iconst 1, 1) := by decide +kernel
theorem dX10_takeLog_26 : decode cX10_takeLog 26 = .ok (.bipush 9, 2) := by decide +kernel
theorem dX10_takeLog_28 : decode cX10_takeLog 28 = .ok (.invokevirtual 102, 3) := by decide +kernel
theorem dX10_takeLog_31 : decode cX10_takeLog 31 = .ok (.iastore, 1) := by decide +kernel
theorem dX10_takeLog_32 : decode cX10_takeLog 32 = .ok (.aload_n 0, 1) := by decide +kernel
theorem dX10_takeLog_33 : decode cX10_takeLog 33 = .ok (.dup, 1) := by decide +kernel
theorem dX10_takeLog_34 : decode cX10_takeLog 34 = .ok (.getfield 99, 3) := by decide +kernel
theorem dX10_takeLog_37 : decode cX10_takeLog 37 = .ok (.iconst 1, 1) := by decide +kernel
theorem dX10_takeLog_38 : decode cX10_takeLog 38 = .ok (.iadd, 1) := by decide +kernel
theorem dX10_takeLog_39 : decode cX10_takeLog 39 = .ok (.putfield 99, 3) := by decide +kernel
theorem dX10_takeLog_42 : decode cX10_takeLog 42 = .ok (.aload_n 0, 1) := by decide +kernel
theorem dX10_takeLog_43 : decode cX10_takeLog 43 = .ok (.getfield 80, 3) := by decide +kernel
theorem dX10_takeLog_46 : decode cX10_takeLog 46 = .ok (.ifCond .ne 16, 3) := by decide +kernel
theorem dX10_takeLog_49 : decode cX10_takeLog 49 = .ok (.aload_n 0, 1) := by decide +kernel
theorem dX10_takeLog_50 : decode cX10_takeLog 50 = .ok (.invokevirtual 83, 3) := by decide +kernel
theorem dX10_takeLog_53 : decode cX10_takeLog 53 = .ok (.bipush 44, 2) := by decide +kernel
theorem dX10_takeLog_55 : decode cX10_takeLog 55 = .ok (.if_icmp .ne 7, 3) := by decide +kernel
theorem dX10_takeLog_58 : decode cX10_takeLog 58 = .ok (.iconst 1, 1) := by decide +kernel
theorem dX10_takeLog_59 : decode cX10_takeLog 59 = .ok (.goto 4, 3) := by decide +kernel
theorem dX10_takeLog_62 : decode cX10_takeLog 62 = .ok (.iconst 0, 1) := by decide +kernel
theorem dX10_takeLog_63 : decode cX10_takeLog 63 = .ok (.istore_n 1, 1) := by decide +kernel
theorem dX10_takeLog_64 : decode cX10_takeLog 64 = .ok (.iload_n 1, 1) := by decide +kernel
