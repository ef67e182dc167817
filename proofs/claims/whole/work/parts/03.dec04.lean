theorem dX10_remember_40 : decode cX10_remember 40 = .ok (.goto (-29), 3) := by decide +kernel
theorem dX10_remember_43 : decode cX10_remember 43 = .ok (.aload_n 0, 1) := by decide +kernel
theorem dX10_remember_44 : decode cX10_remember 44 = .ok (.dup, 1) := by decide +kernel
theorem dX10_remember_45 : decode cX10_remember 45 = .ok (.getfield 163, 3) := by decide +kernel
theorem dX10_remember_48 : decode cX10_remember 48 = .ok (.iconst 1, 1) := by decide +kernel
theorem dX10_remember_49 : decode cX10_remember 49 = .ok (.isub, 1) := by decide +kernel
theorem dX10_remember_50 : decode cX10_remember 50 = .ok (.putfield 163, 3) := by decide +kernel
theorem dX10_remember_53 : decode cX10_remember 53 = .ok (.aload_n 0, 1) := by decide +kernel
theorem dX10_remember_54 : decode cX10_remember 54 = .ok (.iconst 0, 1) := by decide +kernel
theorem dX10_remember_55 : decode cX10_remember 55 = .ok (.bipush 112, 2) := by decide +kernel
theorem dX10_remember_57 : decode cX10_remember 57 = .ok (.bipush 28, 2) := by decide +kernel
theorem dX10_remember_59 : decode cX10_remember 59 = .ok (.aload_n 0, 1) := by decide +kernel
theorem dX10_remember_60 : decode cX10_remember 60 = .ok (.getfield 163, 3) := by decide +kernel
theorem dX10_remember_63 : decode cX10_remember 63 = .ok (.imul, 1) := by decide +kernel
theorem dX10_remember_64 : decode cX10_remember 64 = .ok (.iadd, 1) := by decide +kernel
theorem dX10_remember_65 : decode cX10_remember 65 = .ok (.invokevirtual 191, 3) := by decide +kernel
theorem dX10_remember_68 : decode cX10_remember 68 = .ok (.aload_n 0, 1) := by decide +kernel
theorem dX10_remember_69 : decode cX10_remember 69 = .ok (.dup, 1) := by decide +kernel
theorem dX10_remember_70 : decode cX10_remember 70 = .ok (.getfield 163, 3) := by decide +kernel
theorem dX10_remember_73 : decode cX10_remember 73 = .ok (.iconst 1, 1) := by decide +kernel
theorem dX10_remember_74 : decode cX10_remember 74 = .ok (.iadd, 1) := by decide +kernel
theorem dX10_remember_75 : decode cX10_remember 75 = .ok (.putfield 163, 3) := by decide +kernel
theorem dX10_remember_78 : decode cX10_remember 78 = .ok (.return_, 1) := by decide +kernel
theorem dX10_log_0 : decode cX10_log 0 = .ok (.aload_n 0, 1) := by decide +kernel
theorem dX10_log_1 : decode cX10_log 1 = .ok (.iload_n 1, 1) := by decide +kernel
theorem dX10_log_2 : decode cX10_log 2 = .ok (.invokevirtual 175, 3) := by decide +kernel
theorem dX10_log_5 : decode cX10_log 5 = .ok (.ifCond .eq 16, 3) := by decide +kernel
theorem dX10_log_8 : decode cX10_log 8 = .ok (.aload_n 0, 1) := by decide +kernel
theorem dX10_log_9 : decode cX10_log 9 = .ok (.iload_n 2, 1) := by decide +kernel
theorem dX10_log_10 : decode cX10_log 10 = .ok (.invokevirtual 175, 3) := by decide +kernel
theorem dX10_log_13 : decode cX10_log 13 = .ok (.ifCond .eq 8, 3) := by decide +kernel
theorem dX10_log_16 : decode cX10_log 16 = .ok (.iload_n 1, 1) := by decide +kernel
theorem dX10_log_17 : decode cX10_log 17 = .ok (.iload_n 2, 1) := by decide +kernel
theorem dX10_log_18 : decode cX10_log 18 = .ok (.if_icmp .ne 6, 3) := by decide +kernel
theorem dX10_log_21 : decode cX10_log 21 = .ok (.ldc 174, 2) := by decide +kernel
theorem dX10_log_23 : decode cX10_log 23 = .ok (.ireturn, 1) := by decide +kernel
theorem dX10_log_24 : decode cX10_log 24 = .ok (.aload_n 0, 1) := by decide +kernel
theorem dX10_log_25 : decode cX10_log 25 = .ok (.getfield 144, 3) := by decide +kernel
theorem dX10_log_28 : decode cX10_log 28 = .ok (.ifCond .ne 6, 3) := by decide +kernel
theorem dX10_log_31 : decode cX10_log 31 = .ok (.ldc 194, 2) := by decide +kernel
theorem dX10_log_33 : decode cX10_log 33 = .ok (.ireturn, 1) := by decide +kernel
theorem dX10_log_34 : decode cX10_log 34 = .ok (.aload_n 0, 1) := by decide +kernel
theorem dX10_log_35 : decode cX10_log 35 = .ok (.iconst 0, 1) := by decide +kernel
theorem dX10_log_36 : decode cX10_log 36 = .ok (.iload_n 1, 1) := by decide +kernel
theorem dX10_log_37 : decode cX10_log 37 = .ok (.iload_n 2, 1) := by decide +kernel
theorem dX10_log_38 : decode cX10_log 38 = .ok (.invokevirtual 153, 3) := by decide +kernel
theorem dX10_log_41 : decode cX10_log 41 = .ok (.aload_n 0, 1) := by decide +kernel
theorem dX10_log_42 : decode cX10_log 42 = .ok (.iconst 0, 1) := by decide +kernel
theorem dX10_log_43 : decode cX10_log 43 = .ok (.putfield 163, 3) := by decide +kernel
theorem dX10_log_46 : decode cX10_log 46 = .ok (.iload_n 1, 1) := by decide +kernel
theorem dX10_log_47 : decode cX10_log 47 = .ok (.ireturn, 1) := by decide +kernel
theorem dX10_stroke_0 : decode cX10_stroke 0 = .ok (.iload_n 1, 1) := by decide +kernel
theorem dX10_stroke_1 : decode cX10_stroke 1 = .ok (.i2l, 1) := by decide +kernel
theorem dX10_stroke_2 : decode cX10_stroke 2 = .ok (.lconst 1, 1) := by decide +kernel
theorem dX10_stroke_3 : decode cX10_stroke 3 = .ok (.ldc2_w 195, 3) := by decide +kernel
theorem dX10_stroke_6 : decode cX10_stroke 6 = .ok (.invokestatic 68, 3) := by decide +kernel
theorem dX10_stroke_9 : decode cX10_stroke 9 = .ok (.ifCond .ne 6, 3) := by decide +kernel
theorem dX10_stroke_12 : decode cX10_stroke 12 = .ok (.ldc 72, 2) := by decide +kernel
theorem dX10_stroke_14 : decode cX10_stroke 14 = .ok (.ireturn, 1) := by decide +kernel
theorem dX10_stroke_15 : decode cX10_stroke 15 = .ok (.aload_n 0, 1) := by decide +kernel
theorem dX10_stroke_16 : decode cX10_stroke 16 = .ok (.invokevirtual 197, 3) := by decide +kernel
theorem dX10_stroke_19 : decode cX10_stroke 19 = .ok (.ifCond .eq 11, 3) := by decide +kernel
theorem dX10_stroke_22 : decode cX10_stroke 22 = .ok (.aload_n 0, 1) := by decide +kernel
theorem dX10_stroke_23 : decode cX10_stroke 23 = .ok (.iconst 0, 1) := by decide +kernel
theorem dX10_stroke_24 : decode cX10_stroke 24 = .ok (.invokevirtual 166, 3) := by decide +kernel
theorem dX10_stroke_27 : decode cX10_stroke 27 = .ok (.ifCond .eq 6, 3) := by decide +kernel
theorem dX10_stroke_30 : decode cX10_stroke 30 = .ok (.ldc 194, 2) := by decide +kernel
theorem dX10_stroke_32 : decode cX10_stroke 32 = .ok (.ireturn, 1) := by decide +kernel
theorem dX10_stroke_33 : decode cX10_stroke 33 = .ok (.aload_n 0, 1) := by decide +kernel
theorem dX10_stroke_34 : decode cX10_stroke 34 = .ok (.invokevirtual 201, 3) := by decide +kernel
theorem dX10_stroke_37 : decode cX10_stroke 37 = .ok (.iconst 0, 1) := by decide +kernel
theorem dX10_stroke_38 : decode cX10_stroke 38 = .ok (.istore_n 2, 1) := by decide +kernel
theorem dX10_stroke_39 : decode cX10_stroke 39 = .ok (.iconst 0, 1) := by decide +kernel
theorem dX10_stroke_40 : decode cX10_stroke 40 = .ok (.istore_n 3, 1) := by decide +kernel
theorem dX10_stroke_41 : decode cX10_stroke 41 = .ok (.iload_n 3, 1) := by decide +kernel
theorem dX10_stroke_42 : decode cX10_stroke 42 = .ok (.iload_n 1, 1) := by decide +kernel
theorem dX10_stroke_43 : decode cX10_stroke 43 = .ok (.if_icmp .ge 25, 3) := by decide +kernel
theorem dX10_stroke_46 : decode cX10_stroke 46 = .ok (.aload_n 0, 1) := by decide +kernel
theorem dX10_stroke_47 : decode cX10_stroke 47 = .ok (.iconst 0, 1) := by decide +kernel
theorem dX10_stroke_48 : decode cX10_stroke 48 = .ok (.invokevirtual 166, 3) := by decide +kernel
theorem dX10_stroke_51 : decode cX10_stroke 51 = .ok (.ifCond .ne 17, 3) := by decide +kernel
theorem dX10_stroke_54 : decode cX10_stroke 54 = .ok (.iload_n 2, 1) := by decide +kernel
theorem dX10_stroke_55 : decode cX10_stroke 55 = .ok (.aload_n 0, 1) := by decide +kernel
theorem dX10_stroke_56 : decode cX10_stroke 56 = .ok (.iconst 0, 1) := by decide +kernel
theorem dX10_stroke_57 : decode cX10_stroke 57 = .ok (.invokevirtual 204, 3) := by decide +kernel
theorem dX10_stroke_60 : decode cX10_stroke 60 = .ok (.iadd, 1) := by decide +kernel
theorem dX10_stroke_61 : decode cX10_stroke 61 = .ok (.istore_n 2, 1) := by decide +kernel
theorem dX10_stroke_62 : decode cX10_stroke 62 = .ok (.iinc 3 1, 3) := by decide +kernel
theorem dX10_stroke_65 : decode cX10_stroke 65 = .ok (.goto (-24), 3) := by decide +kernel
theorem dX10_stroke_68 : decode cX10_stroke 68 = .ok (.iload_n 2, 1) := by decide +kernel
theorem dX10_stroke_69 : decode cX10_stroke 69 = .ok (.ireturn, 1) := by decide +kernel
theorem dX10_rest_0 : decode cX10_rest 0 = .ok (.iload_n 1, 1) := by decide +kernel
theorem dX10_rest_1 : decode cX10_rest 1 = .ok (.i2l, 1) := by decide +kernel
theorem dX10_rest_2 : decode cX10_rest 2 = .ok (.lconst 1, 1) := by decide +kernel
theorem dX10_rest_3 : decode cX10_rest 3 = .ok (.ldc2_w 195, 3) := by decide +kernel
theorem dX10_rest_6 : decode cX10_rest 6 = .ok (.invokestatic 68, 3) := by decide +kernel
theorem dX10_rest_9 : decode cX10_rest 9 = .ok (.ifCond .ne 6, 3) := by decide +kernel
theorem dX10_rest_12 : decode cX10_rest 12 = .ok (.ldc 72, 2) := by decide +kernel
theorem dX10_rest_14 : decode cX10_rest 14 = .ok (.ireturn, 1) := by decide +kernel
theorem dX10_rest_15 : decode cX10_rest 15 = .ok (.aload_n 0, 1) := by decide +kernel
theorem dX10_rest_16 : decode cX10_rest 16 = .ok (.invokevirtual 197, 3) := by decide +kernel
theorem dX10_rest_19 : decode cX10_rest 19 = .ok (.ifCond .eq 11, 3) := by decide +kernel
theorem dX10_rest_22 : decode cX10_rest 22 = .ok (.aload_n 0, 1) := by decide +kernel
theorem dX10_rest_23 : decode cX10_rest 23 = .ok (.iconst 0, 1) := by decide +kernel
theorem dX10_rest_24 : decode cX10_rest 24 = .ok (.invokevirtual 166, 3) := by decide +kernel
theorem dX10_rest_27 : decode cX10_rest 27 = .ok (.ifCond .eq 6, 3) := by decide +kernel
theorem dX10_rest_30 : decode cX10_rest 30 = .ok (.ldc 194, 2) := by decide +kernel
theorem dX10_rest_32 : decode cX10_rest 32 = .ok (.ireturn, 1) := by decide +kernel
theorem dX10_rest_33 : decode cX10_rest 33 = .ok (.aload_n 0, 1) := by decide +kernel
theorem dX10_rest_34 : decode cX10_rest 34 = .ok (.invokevirtual 201, 3) := by decide +kernel
theorem dX10_rest_37 : decode cX10_rest 37 = .ok (.aload_n 0, 1) := by decide +kernel
theorem dX10_rest_38 : decode cX10_rest 38 = .ok (.iconst 0, 1) := by decide +kernel
theorem dX10_rest_39 : decode cX10_rest 39 = .ok (.iload_n 1, 1) := by decide +kernel
theorem dX10_rest_40 : decode cX10_rest 40 = .ok (.invokevirtual 207, 3) := by decide +kernel
theorem dX10_rest_43 : decode cX10_rest 43 = .ok (.aload_n 0, 1) := by decide +kernel
theorem dX10_rest_44 : decode cX10_rest 44 = .ok (.getfield 7, 3) := by decide +kernel
theorem dX10_rest_47 : decode cX10_rest 47 = .ok (.bipush 20, 2) := by decide +kernel
theorem dX10_rest_49 : decode cX10_rest 49 = .ok (.iaload, 1) := by decide +kernel
theorem dX10_rest_50 : decode cX10_rest 50 = .ok (.ireturn, 1) := by decide +kernel
theorem dX10_sides_0 : decode cX10_sides 0 = .ok (.aload_n 0, 1) := by decide +kernel
theorem dX10_sides_1 : decode cX10_sides 1 = .ok (.invokevirtual 197, 3) := by decide +kernel
theorem dX10_sides_4 : decode cX10_sides 4 = .ok (.ifCond .ne 6, 3) := by decide +kernel
theorem dX10_sides_7 : decode cX10_sides 7 = .ok (.ldc 194, 2) := by decide +kernel
theorem dX10_sides_9 : decode cX10_sides 9 = .ok (.ireturn, 1) := by decide +kernel
theorem dX10_sides_10 : decode cX10_sides 10 = .ok (.aload_n 0, 1) := by decide +kernel
theorem dX10_sides_11 : decode cX10_sides 11 = .ok (.invokevirtual 201, 3) := by decide +kernel
theorem dX10_sides_14 : decode cX10_sides 14 = .ok (.aload_n 0, 1) := by decide +kernel
theorem dX10_sides_15 : decode cX10_sides 15 = .ok (.getfield 7, 3) := by decide +kernel
theorem dX10_sides_18 : decode cX10_sides 18 = .ok (.bipush 16, 2) := by decide +kernel
theorem dX10_sides_20 : decode cX10_sides 20 = .ok (.iaload, 1) := by decide +kernel
theorem dX10_sides_21 : decode cX10_sides 21 = .ok (.istore_n 1, 1) := by decide +kernel
theorem dX10_sides_22 : decode cX10_sides 22 = .ok (.aload_n 0, 1) := by decide +kernel
theorem dX10_sides_23 : decode cX10_sides 23 = .ok (.getfield 7, 3) := by decide +kernel
theorem dX10_sides_26 : decode cX10_sides 26 = .ok (.bipush 16, 2) := by decide +kernel
theorem dX10_sides_28 : decode cX10_sides 28 = .ok (.aload_n 0, 1) := by decide +kernel
theorem dX10_sides_29 : decode cX10_sides 29 = .ok (.getfield 7, 3) := by decide +kernel
theorem dX10_sides_32 : decode cX10_sides 32 = .ok (.bipush 17, 2) := by decide +kernel
theorem dX10_sides_34 : decode cX10_sides 34 = .ok (.iaload, 1) := by decide +kernel
theorem dX10_sides_35 : decode cX10_sides 35 = .ok (.iastore, 1) := by decide +kernel
theorem dX10_sides_36 : decode cX10_sides 36 = .ok (.aload_n 0, 1) := by decide +kernel
theorem dX10_sides_37 : decode cX10_sides 37 = .ok (.getfield 7, 3) := by decide +kernel
theorem dX10_sides_40 : decode cX10_sides 40 = .ok (.bipush 17, 2) := by decide +kernel
theorem dX10_sides_42 : decode cX10_sides 42 = .ok (.iload_n 1, 1) := by decide +kernel
theorem dX10_sides_43 : decode cX10_sides 43 = .ok (.iastore, 1) := by decide +kernel
theorem dX10_sides_44 : decode cX10_sides 44 = .ok (.aload_n 0, 1) := by decide +kernel
theorem dX10_sides_45 : decode cX10_sides 45 = .ok (.getfield 7, 3) := by decide +kernel
theorem dX10_sides_48 : decode cX10_sides 48 = .ok (.bipush 16, 2) := by decide +kernel
theorem dX10_sides_50 : decode cX10_sides 50 = .ok (.iaload, 1) := by decide +kernel
theorem dX10_sides_51 : decode cX10_sides 51 = .ok (.ireturn, 1) := by decide +kernel
theorem dX10_oil_0 : decode cX10_oil 0 = .ok (.aload_n 0, 1) := by decide +kernel
theorem dX10_oil_1 : decode cX10_oil 1 = .ok (.invokevirtual 197, 3) := by decide +kernel
theorem dX10_oil_4 : decode cX10_oil 4 = .ok (.ifCond .ne 6, 3) := by decide +kernel
theorem dX10_oil_7 : decode cX10_oil 7 = .ok (.ldc 194, 2) := by decide +kernel
theorem dX10_oil_9 : decode cX10_oil 9 = .ok (.ireturn, 1) := by decide +kernel
theorem dX10_oil_10 : decode cX10_oil 10 = .ok (.aload_n 0, 1) := by decide +kernel
theorem dX10_oil_11 : decode cX10_oil 11 = .ok (.getfield 7, 3) := by decide +kernel
theorem dX10_oil_14 : decode cX10_oil 14 = .ok (.bipush 22, 2) := by decide +kernel
theorem dX10_oil_16 : decode cX10_oil 16 = .ok (.iaload, 1) := by decide +kernel
theorem dX10_oil_17 : decode cX10_oil 17 = .ok (.istore_n 1, 1) := by decide +kernel
theorem dX10_oil_18 : decode cX10_oil 18 = .ok (.iload_n 1, 1) := by decide +kernel
theorem dX10_oil_19 : decode cX10_oil 19 = .ok (.ifCond .le 7, 3) := by decide +kernel
theorem dX10_oil_22 : decode cX10_oil 22 = .ok (.aload_n 0, 1) := by decide +kernel
theorem dX10_oil_23 : decode cX10_oil 23 = .ok (.invokevirtual 201, 3) := by decide +kernel
theorem dX10_oil_26 : decode cX10_oil 26 = .ok (.aload_n 0, 1) := by decide +kernel
theorem dX10_oil_27 : decode cX10_oil 27 = .ok (.getfield 7, 3) := by decide +kernel
theorem dX10_oil_30 : decode cX10_oil 30 = .ok (.bipush 22, 2) := by decide +kernel
theorem dX10_oil_32 : decode cX10_oil 32 = .ok (.iconst 0, 1) := by decide +kernel
theorem dX10_oil_33 : decode cX10_oil 33 = .ok (.iastore, 1) := by decide +kernel
theorem dX10_oil_34 : decode cX10_oil 34 = .ok (.iload_n 1, 1) := by decide +kernel
theorem dX10_oil_35 : decode cX10_oil 35 = .ok (.ireturn, 1) := by decide +kernel
theorem dX10_wedge_0 : decode cX10_wedge 0 = .ok (.aload_n 0, 1) := by decide +kernel
theorem dX10_wedge_1 : decode cX10_wedge 1 = .ok (.invokevirtual 197, 3) := by decide +kernel
theorem dX10_wedge_4 : decode cX10_wedge 4 = .ok (.ifCond .eq 14, 3) := by decide +kernel
theorem dX10_wedge_7 : decode cX10_wedge 7 = .ok (.aload_n 0, 1) := by decide +kernel
theorem dX10_wedge_8 : decode cX10_wedge 8 = .ok (.getfield 7, 3) := by decide +kernel
theorem dX10_wedge_11 : decode cX10_wedge 11 = .ok (.bipush 23, 2) := by decide +kernel
theorem dX10_wedge_13 : decode cX10_wedge 13 = .ok (.iaload, 1) := by decide +kernel
theorem dX10_wedge_14 : decode cX10_wedge 14 = .ok (.iconst 1, 1) := by decide +kernel
theorem dX10_wedge_15 : decode cX10_wedge 15 = .ok (.if_icmp .ne 6, 3) := by decide +kernel
theorem dX10_wedge_18 : decode cX10_wedge 18 = .ok (.ldc 194, 2) := by decide +kernel
theorem dX10_wedge_20 : decode cX10_wedge 20 = .ok (.ireturn, 1) := by decide +kernel
theorem dX10_wedge_21 : decode cX10_wedge 21 = .ok (.aload_n 0, 1) := by decide +kernel
theorem dX10_wedge_22 : decode cX10_wedge 22 = .ok (.invokevirtual 201, 3) := by decide +kernel
theorem dX10_wedge_25 : decode cX10_wedge 25 = .ok (.aload_n 0, 1) := by decide +kernel
theorem dX10_wedge_26 : decode cX10_wedge 26 = .ok (.getfield 7, 3) := by decide +kernel
theorem dX10_wedge_29 : decode cX10_wedge 29 = .ok (.bipush 23, 2) := by decide +kernel
theorem dX10_wedge_31 : decode cX10_wedge 31 = .ok (.iconst 1, 1) := by decide +kernel
theorem dX10_wedge_32 : decode cX10_wedge 32 = .ok (.iastore, 1) := by decide +kernel
theorem dX10_wedge_33 : decode cX10_wedge 33 = .ok (.aload_n 0, 1) := by decide +kernel
theorem dX10_wedge_34 : decode cX10_wedge 34 = .ok (.getfield 7, 3) := by decide +kernel
theorem dX10_wedge_37 : decode cX10_wedge 37 = .ok (.bipush 20, 2) := by decide +kernel
theorem dX10_wedge_39 : decode cX10_wedge 39 = .ok (.dup2, 1) := by decide +kernel
theorem dX10_wedge_40 : decode cX10_wedge 40 = .ok (.iaload, 1) := by decide +kernel
theorem dX10_wedge_41 : decode cX10_wedge 41 = .ok (.iconst 3, 1) := by decide +kernel
theorem dX10_wedge_42 : decode cX10_wedge 42 = .ok (.iadd, 1) := by decide +kernel
theorem dX10_wedge_43 : decode cX10_wedge 43 = .ok (.iastore, 1) := by decide +kernel
theorem dX10_wedge_44 : decode cX10_wedge 44 = .ok (.aload_n 0, 1) := by decide +kernel
theorem dX10_wedge_45 : decode cX10_wedge 45 = .ok (.getfield 7, 3) := by decide +kernel
theorem dX10_wedge_48 : decode cX10_wedge 48 = .ok (.bipush 20, 2) := by decide +kernel
theorem dX10_wedge_50 : decode cX10_wedge 50 = .ok (.iaload, 1) := by decide +kernel
theorem dX10_wedge_51 : decode cX10_wedge 51 = .ok (.ireturn, 1) := by decide +kernel
theorem dX10_file_0 : decode cX10_file 0 = .ok (.aload_n 0, 1) := by decide +kernel
theorem dX10_file_1 : decode cX10_file 1 = .ok (.invokevirtual 197, 3) := by decide +kernel
theorem dX10_file_4 : decode cX10_file 4 = .ok (.ifCond .eq 15, 3) := by decide +kernel
theorem dX10_file_7 : decode cX10_file 7 = .ok (.aload_n 0, 1) := by decide +kernel
theorem dX10_file_8 : decode cX10_file 8 = .ok (.getfield 7, 3) := by decide +kernel
theorem dX10_file_11 : decode cX10_file 11 = .ok (.bipush 24, 2) := by decide +kernel
theorem dX10_file_13 : decode cX10_file 13 = .ok (.iaload, 1) := by decide +kernel
theorem dX10_file_14 : decode cX10_file 14 = .ok (.bipush 9, 2) := by decide +kernel
theorem dX10_file_16 : decode cX10_file 16 = .ok (.if_icmp .ne 6, 3) := by decide +kernel
theorem dX10_file_19 : decode cX10_file 19 = .ok (.ldc 194, 2) := by decide +kernel
theorem dX10_file_21 : decode cX10_file 21 = .ok (.ireturn, 1) := by decide +kernel
theorem dX10_file_22 : decode cX10_file 22 = .ok (.aload_n 0, 1) := by decide +kernel
theorem dX10_file_23 : decode cX10_file 23 = .ok (.invokevirtual 201, 3) := by decide +kernel
theorem dX10_file_26 : decode cX10_file 26 = .ok (.aload_n 0, 1) := by decide +kernel
theorem dX10_file_27 : decode cX10_file 27 = .ok (.getfield 7, 3) := by decide +kernel
theorem dX10_file_30 : decode cX10_file 30 = .ok (.bipush 24, 2) := by decide +kernel
theorem dX10_file_32 : decode cX10_file 32 = .ok (.dup2, 1) := by decide +kernel
theorem dX10_file_33 : decode cX10_file 33 = .ok (.iaload, 1) := by decide +kernel
theorem dX10_file_34 : decode cX10_file 34 = .ok (.iconst 1, 1) := by decide +kernel
theorem dX10_file_35 : decode cX10_file 35 = .ok (.iadd, 1) := by decide +kernel
theorem dX10_file_36 : decode cX10_file 36 = .ok (.iastore, 1) := by decide +kernel
theorem dX10_file_37 : decode cX10_file 37 = .ok (.aload_n 0, 1) := by decide +kernel
theorem dX10_file_38 : decode cX10_file 38 = .ok (.getfield 7, 3) := by decide +kernel
theorem dX10_file_41 : decode cX10_file 41 = .ok (.bipush 20, 2) := by decide +kernel
theorem dX10_file_43 : decode cX10_file 43 = .ok (.dup2, 1) := by decide +kernel
theorem dX10_file_44 : decode cX10_file 44 = .ok (.iaload, 1) := by decide +kernel
theorem dX10_file_45 : decode cX10_file 45 = .ok (.bipush 20, 2) := by decide +kernel
theorem dX10_file_47 : decode cX10_file 47 = .ok (.iadd, 1) := by decide +kernel
theorem dX10_file_48 : decode cX10_file 48 = .ok (.iastore, 1) := by decide +kernel
theorem dX10_file_49 : decode cX10_file 49 = .ok (.aload_n 0, 1) := by decide +kernel
theorem dX10_file_50 : decode cX10_file 50 = .ok (.getfield 7, 3) := by decide +kernel
theorem dX10_file_53 : decode cX10_file 53 = .ok (.bipush 24, 2) := by decide +kernel
theorem dX10_file_55 : decode cX10_file 55 = .ok (.iaload, 1) := by decide +kernel
theorem dX10_file_56 : decode cX10_file 56 = .ok (.ireturn, 1) := by decide +kernel
theorem dX10_become_0 : decode cX10_become 0 = .ok (.aload_n 0, 1) := by decide +kernel
theorem dX10_become_1 : decode cX10_become 1 = .ok (.getfield 7, 3) := by decide +kernel
theorem dX10_become_4 : decode cX10_become 4 = .ok (.iload_n 1, 1) := by decide +kernel
theorem dX10_become_5 : decode cX10_become 5 = .ok (.iaload, 1) := by decide +kernel
theorem dX10_become_6 : decode cX10_become 6 = .ok (.istore_n 3, 1) := by decide +kernel
theorem dX10_become_7 : decode cX10_become 7 = .ok (.iload_n 3, 1) := by decide +kernel
theorem dX10_become_8 : decode cX10_become 8 = .ok (.iload_n 2, 1) := by decide +kernel
theorem dX10_become_9 : decode cX10_become 9 = .ok (.if_icmp .eq 7, 3) := by decide +kernel
theorem dX10_become_12 : decode cX10_become 12 = .ok (.aload_n 0, 1) := by decide +kernel
theorem dX10_become_13 : decode cX10_become 13 = .ok (.invokevirtual 201, 3) := by decide +kernel
theorem dX10_become_16 : decode cX10_become 16 = .ok (.aload_n 0, 1) := by decide +kernel
theorem dX10_become_17 : decode cX10_become 17 = .ok (.getfield 7, 3) := by decide +kernel
theorem dX10_become_20 : decode cX10_become 20 = .ok (.iload_n 1, 1) := by decide +kernel
theorem dX10_become_21 : decode cX10_become 21 = .ok (.iload_n 2, 1) := by decide +kernel
theorem dX10_become_22 : decode cX10_become 22 = .ok (.iastore, 1) := by decide +kernel
theorem dX10_become_23 : decode cX10_become 23 = .ok (.iload_n 3, 1) := by decide +kernel
theorem dX10_become_24 : decode cX10_become 24 = .ok (.ireturn, 1) := by decide +kernel
theorem dX10_wish_0 : decode cX10_wish 0 = .ok (.aload_n 0, 1) := by decide +kernel
theorem dX10_wish_1 : decode cX10_wish 1 = .ok (.iload_n 1, 1) := by decide +kernel
theorem dX10_wish_2 : decode cX10_wish 2 = .ok (.invokevirtual 175, 3) := by decide +kernel
theorem dX10_wish_5 : decode cX10_wish 5 = .ok (.ifCond .ne 8, 3) := by decide +kernel
theorem dX10_wish_8 : decode cX10_wish 8 = .ok (.ldc 174, 2) := by decide +kernel
theorem dX10_wish_10 : decode cX10_wish 10 = .ok (.goto 26, 3) := by decide +kernel
theorem dX10_wish_13 : decode cX10_wish 13 = .ok (.iload_n 2, 1) := by decide +kernel
theorem dX10_wish_14 : decode cX10_wish 14 = .ok (.i2l, 1) := by decide +kernel
theorem dX10_wish_15 : decode cX10_wish 15 = .ok (.lconst 1, 1) := by decide +kernel
theorem dX10_wish_16 : decode cX10_wish 16 = .ok (.ldc2_w 210, 3) := by decide +kernel
theorem dX10_wish_19 : decode cX10_wish 19 = .ok (.invokestatic 68, 3) := by decide +kernel
theorem dX10_wish_22 : decode cX10_wish 22 = .ok (.ifCond .eq 12, 3) := by decide +kernel
theorem dX10_wish_25 : decode cX10_wish 25 = .ok (.aload_n 0, 1) := by decide +kernel
theorem dX10_wish_26 : decode cX10_wish 26 = .ok (.iload_n 1, 1) := by decide +kernel
theorem dX10_wish_27 : decode cX10_wish 27 = .ok (.iload_n 2, 1) := by decide +kernel
theorem dX10_wish_28 : decode cX10_wish 28 = .ok (.invokevirtual 212, 3) := by decide +kernel
theorem dX10_wish_31 : decode cX10_wish 31 = .ok (.goto 5, 3) := by decide +kernel
theorem dX10_wish_34 : decode cX10_wish 34 = .ok (.ldc 72, 2) := by decide +kernel
theorem dX10_wish_36 : decode cX10_wish 36 = .ok (.ireturn, 1) := by decide +kernel
theorem dX10_habit_0 : decode cX10_habit 0 = .ok (.aload_n 0, 1) := by decide +kernel
theorem dX10_habit_1 : decode cX10_habit 1 = .ok (.iload_n 1, 1) := by decide +kernel
theorem dX10_habit_2 : decode cX10_habit 2 = .ok (.invokevirtual 175, 3) := by decide +kernel
theorem dX10_habit_5 : decode cX10_habit 5 = .ok (.ifCond .ne 8, 3) := by decide +kernel
theorem dX10_habit_8 : decode cX10_habit 8 = .ok (.ldc 174, 2) := by decide +kernel
theorem dX10_habit_10 : decode cX10_habit 10 = .ok (.goto 29, 3) := by decide +kernel
theorem dX10_habit_13 : decode cX10_habit 13 = .ok (.iload_n 2, 1) := by decide +kernel
theorem dX10_habit_14 : decode cX10_habit 14 = .ok (.i2l, 1) := by decide +kernel
theorem dX10_habit_15 : decode cX10_habit 15 = .ok (.lconst 0, 1) := by decide +kernel
theorem dX10_habit_16 : decode cX10_habit 16 = .ok (.ldc2_w 215, 3) := by decide +kernel
theorem dX10_habit_19 : decode cX10_habit 19 = .ok (.invokestatic 68, 3) := by decide +kernel
theorem dX10_habit_22 : decode cX10_habit 22 = .ok (.ifCond .eq 15, 3) := by decide +kernel
theorem dX10_habit_25 : decode cX10_habit 25 = .ok (.aload_n 0, 1) := by decide +kernel
theorem dX10_habit_26 : decode cX10_habit 26 = .ok (.bipush 12, 2) := by decide +kernel
theorem dX10_habit_28 : decode cX10_habit 28 = .ok (.iload_n 1, 1) := by decide +kernel
theorem dX10_habit_29 : decode cX10_habit 29 = .ok (.iadd, 1) := by decide +kernel
theorem dX10_habit_30 : decode cX10_habit 30 = .ok (.iload_n 2, 1) := by decide +kernel
theorem dX10_habit_31 : decode cX10_habit 31 = .ok (.invokevirtual 212, 3) := by decide +kernel
theorem dX10_habit_34 : decode cX10_habit 34 = .ok (.goto 5, 3) := by decide +kernel
theorem dX10_habit_37 : decode cX10_habit 37 = .ok (.ldc 72, 2) := by decide +kernel
theorem dX10_habit_39 : decode cX10_habit 39 = .ok (.ireturn, 1) := by decide +kernel
theorem dX10_draw_0 : decode cX10_draw 0 = .ok (.aload_n 0, 1) := by decide +kernel
theorem dX10_draw_1 : decode cX10_draw 1 = .ok (.getfield 7, 3) := by decide +kernel
theorem dX10_draw_4 : decode cX10_draw 4 = .ok (.bipush 25, 2) := by decide +kernel
theorem dX10_draw_6 : decode cX10_draw 6 = .ok (.aload_n 0, 1) := by decide +kernel
theorem dX10_draw_7 : decode cX10_draw 7 = .ok (.getfield 7, 3) := by decide +kernel
theorem dX10_draw_10 : decode cX10_draw 10 = .ok (.bipush 25, 2) := by decide +kernel
theorem dX10_draw_12 : decode cX10_draw 12 = .ok (.iaload, 1) := by decide +kernel
theorem dX10_draw_13 : decode cX10_draw 13 = .ok (.i2l, 1) := by decide +kernel
theorem dX10_draw_14 : decode cX10_draw 14 = .ok (.ldc2_w 217, 3) := by decide +kernel
theorem dX10_draw_17 : decode cX10_draw 17 = .ok (.lmul, 1) := by decide +kernel
theorem dX10_draw_18 : decode cX10_draw 18 = .ok (.ldc2_w 219, 3) := by decide +kernel
theorem dX10_draw_21 : decode cX10_draw 21 = .ok (.ladd, 1) := by decide +kernel
theorem dX10_draw_22 : decode cX10_draw 22 = .ok (.ldc2_w 221, 3) := by decide +kernel
theorem dX10_draw_25 : decode cX10_draw 25 = .ok (.lrem, 1) := by decide +kernel
theorem dX10_draw_26 : decode cX10_draw 26 = .ok (.l2i, 1) := by decide +kernel
theorem dX10_draw_27 : decode cX10_draw 27 = .ok (.iastore, 1) := by decide +kernel
theorem dX10_draw_28 : decode cX10_draw 28 = .ok (.aload_n 0, 1) := by decide +kernel
theorem dX10_draw_29 : decode cX10_draw 29 = .ok (.getfield 7, 3) := by decide +kernel
theorem dX10_draw_32 : decode cX10_draw 32 = .ok (.bipush 25, 2) := by decide +kernel
theorem dX10_draw_34 : decode cX10_draw 34 = .ok (.iaload, 1) := by decide +kernel
theorem dX10_draw_35 : decode cX10_draw 35 = .ok (.ldc 223, 2) := by decide +kernel
theorem dX10_draw_37 : decode cX10_draw 37 = .ok (.idiv, 1) := by decide +kernel
theorem dX10_draw_38 : decode cX10_draw 38 = .ok (.iload_n 1, 1) := by decide +kernel
theorem dX10_draw_39 : decode cX10_draw 39 = .ok (.irem, 1) := by decide +kernel
theorem dX10_draw_40 : decode cX10_draw 40 = .ok (.ireturn, 1) := by decide +kernel
theorem dX10_drift_0 : decode cX10_drift 0 = .ok (.iload_n 1, 1) := by decide +kernel
theorem dX10_drift_1 : decode cX10_drift 1 = .ok (.i2l, 1) := by decide +kernel
theorem dX10_drift_2 : decode cX10_drift 2 = .ok (.lconst 1, 1) := by decide +kernel
theorem dX10_drift_3 : decode cX10_drift 3 = .ok (.ldc2_w 195, 3) := by decide +kernel
theorem dX10_drift_6 : decode cX10_drift 6 = .ok (.invokestatic 68, 3) := by decide +kernel
theorem dX10_drift_9 : decode cX10_drift 9 = .ok (.ifCond .ne 6, 3) := by decide +kernel
theorem dX10_drift_12 : decode cX10_drift 12 = .ok (.ldc 72, 2) := by decide +kernel
theorem dX10_drift_14 : decode cX10_drift 14 = .ok (.ireturn, 1) := by decide +kernel
theorem dX10_drift_15 : decode cX10_drift 15 = .ok (.aload_n 0, 1) := by decide +kernel
theorem dX10_drift_16 : decode cX10_drift 16 = .ok (.invokevirtual 197, 3) := by decide +kernel
theorem dX10_drift_19 : decode cX10_drift 19 = .ok (.ifCond .eq 11, 3) := by decide +kernel
theorem dX10_drift_22 : decode cX10_drift 22 = .ok (.aload_n 0, 1) := by decide +kernel
theorem dX10_drift_23 : decode cX10_drift 23 = .ok (.iconst 0, 1) := by decide +kernel
theorem dX10_drift_24 : decode cX10_drift 24 = .ok (.invokevirtual 166, 3) := by decide +kernel
theorem dX10_drift_27 : decode cX10_drift 27 = .ok (.ifCond .eq 6, 3) := by decide +kernel
theorem dX10_drift_30 : decode cX10_drift 30 = .ok (.ldc 194, 2) := by decide +kernel
theorem dX10_drift_32 : decode cX10_drift 32 = .ok (.ireturn, 1) := by decide +kernel
theorem dX10_drift_33 : decode cX10_drift 33 = .ok (.aload_n 0, 1) := by decide +kernel
theorem dX10_drift_34 : decode cX10_drift 34 = .ok (.invokevirtual 201, 3) := by decide +kernel
theorem dX10_drift_37 : decode cX10_drift 37 = .ok (.iconst 0, 1) := by decide +kernel
theorem dX10_drift_38 : decode cX10_drift 38 = .ok (.istore_n 2, 1) := by decide +kernel
theorem dX10_drift_39 : decode cX10_drift 39 = .ok (.iload_n 2, 1) := by decide +kernel
theorem dX10_drift_40 : decode cX10_drift 40 = .ok (.iload_n 1, 1) := by decide +kernel
theorem dX10_drift_41 : decode cX10_drift 41 = .ok (.if_icmp .ge 60, 3) := by decide +kernel
theorem dX10_drift_44 : decode cX10_drift 44 = .ok (.aload_n 0, 1) := by decide +kernel
theorem dX10_drift_45 : decode cX10_drift 45 = .ok (.iconst 0, 1) := by decide +kernel
theorem dX10_drift_46 : decode cX10_drift 46 = .ok (.invokevirtual 166, 3) := by decide +kernel
theorem dX10_drift_49 : decode cX10_drift 49 = .ok (.ifCond .ne 52, 3) := by decide +kernel
theorem dX10_drift_52 : decode cX10_drift 52 = .ok (.aload_n 0, 1) := by decide +kernel
theorem dX10_drift_53 : decode cX10_drift 53 = .ok (.bipush 8, 2) := by decide +kernel
theorem dX10_drift_55 : decode cX10_drift 55 = .ok (.invokevirtual 224, 3) := by decide +kernel
theorem dX10_drift_58 : decode cX10_drift 58 = .ok (.istore_n 3, 1) := by decide +kernel
theorem dX10_drift_59 : decode cX10_drift 59 = .ok (.iload_n 3, 1) := by decide +kernel
theorem dX10_drift_60 : decode cX10_drift 60 = .ok (.ifCond .ne 12, 3) := by decide +kernel
theorem dX10_drift_63 : decode cX10_drift 63 = .ok (.aload_n 0, 1) := by decide +kernel
theorem dX10_drift_64 : decode cX10_drift 64 = .ok (.iconst 0, 1) := by decide +kernel
theorem dX10_drift_65 : decode cX10_drift 65 = .ok (.iconst 1, 1) := by decide +kernel
theorem dX10_drift_66 : decode cX10_drift 66 = .ok (.invokevirtual 207, 3) := by decide +kernel
theorem dX10_drift_69 : decode cX10_drift 69 = .ok (.goto 26, 3) := by decide +kernel
theorem dX10_drift_72 : decode cX10_drift 72 = .ok (.iload_n 3, 1) := by decide +kernel
theorem dX10_drift_73 : decode cX10_drift 73 = .ok (.iconst 1, 1) := by decide +kernel
theorem dX10_drift_74 : decode cX10_drift 74 = .ok (.if_icmp .ne 14, 3) := by decide +kernel
theorem dX10_drift_77 : decode cX10_drift 77 = .ok (.aload_n 0, 1) := by decide +kernel
theorem dX10_drift_78 : decode cX10_drift 78 = .ok (.getfield 7, 3) := by decide +kernel
theorem dX10_drift_81 : decode cX10_drift 81 = .ok (.bipush 22, 2) := by decide +kernel
theorem dX10_drift_83 : decode cX10_drift 83 = .ok (.iconst 0, 1) := by decide +kernel
theorem dX10_drift_84 : decode cX10_drift 84 = .ok (.iastore, 1) := by decide +kernel
theorem dX10_drift_85 : decode cX10_drift 85 = .ok (.goto 10, 3) := by decide +kernel
theorem dX10_drift_88 : decode cX10_drift 88 = .ok (.aload_n 0, 1) := by decide +kernel
theorem dX10_drift_89 : decode cX10_drift 89 = .ok (.iconst 0, 1) := by decide +kernel
theorem dX10_drift_90 : decode cX10_drift 90 = .ok (.invokevirtual 204, 3) := by decide +kernel
theorem dX10_drift_93 : decode cX10_drift 93 = .ok (.istore 4, 2) := by decide +kernel
theorem dX10_drift_95 : decode cX10_drift 95 = .ok (.iinc 2 1, 3) := by decide +kernel
theorem dX10_drift_98 : decode cX10_drift 98 = .ok (.goto (-59), 3) := by decide +kernel
theorem dX10_drift_101 : decode cX10_drift 101 = .ok (.aload_n 0, 1) := by decide +kernel
theorem dX10_drift_102 : decode cX10_drift 102 = .ok (.getfield 7, 3) := by decide +kernel
theorem dX10_drift_105 : decode cX10_drift 105 = .ok (.bipush 19, 2) := by decide +kernel
theorem dX10_drift_107 : decode cX10_drift 107 = .ok (.iaload, 1) := by decide +kernel
theorem dX10_drift_108 : decode cX10_drift 108 = .ok (.ireturn, 1) := by decide +kernel
theorem dX10_undo_0 : decode cX10_undo 0 = .ok (.iload_n 1, 1) := by decide +kernel
theorem dX10_undo_1 : decode cX10_undo 1 = .ok (.i2l, 1) := by decide +kernel
theorem dX10_undo_2 : decode cX10_undo 2 = .ok (.lconst 1, 1) := by decide +kernel
theorem dX10_undo_3 : decode cX10_undo 3 = .ok (.ldc2_w 227, 3) := by decide +kernel
theorem dX10_undo_6 : decode cX10_undo 6 = .ok (.invokestatic 68, 3) := by decide +kernel
theorem dX10_undo_9 : decode cX10_undo 9 = .ok (.ifCond .ne 6, 3) := by decide +kernel
theorem dX10_undo_12 : decode cX10_undo 12 = .ok (.ldc 72, 2) := by decide +kernel
theorem dX10_undo_14 : decode cX10_undo 14 = .ok (.ireturn, 1) := by decide +kernel
theorem dX10_undo_15 : decode cX10_undo 15 = .ok (.iload_n 1, 1) := by decide +kernel
theorem dX10_undo_16 : decode cX10_undo 16 = .ok (.aload_n 0, 1) := by decide +kernel
theorem dX10_undo_17 : decode cX10_undo 17 = .ok (.getfield 163, 3) := by decide +kernel
theorem dX10_undo_20 : decode cX10_undo 20 = .ok (.if_icmp .le 6, 3) := by decide +kernel
theorem dX10_undo_23 : decode cX10_undo 23 = .ok (.ldc 194, 2) := by decide +kernel
theorem dX10_undo_25 : decode cX10_undo 25 = .ok (.ireturn, 1) := by decide +kernel
theorem dX10_undo_26 : decode cX10_undo 26 = .ok (.aload_n 0, 1) := by decide +kernel
theorem dX10_undo_27 : decode cX10_undo 27 = .ok (.dup, 1) := by decide +kernel
theorem dX10_undo_28 : decode cX10_undo 28 = .ok (.getfield 163, 3) := by decide +kernel
theorem dX10_undo_31 : decode cX10_undo 31 = .ok (.iload_n 1, 1) := by decide +kernel
theorem dX10_undo_32 : decode cX10_undo 32 = .ok (.isub, 1) := by decide +kernel
theorem dX10_undo_33 : decode cX10_undo 33 = .ok (.putfield 163, 3) := by decide +kernel
theorem dX10_undo_36 : decode cX10_undo 36 = .ok (.aload_n 0, 1) := by decide +kernel
theorem dX10_undo_37 : decode cX10_undo 37 = .ok (.getfield 7, 3) := by decide +kernel
theorem dX10_undo_40 : decode cX10_undo 40 = .ok (.bipush 25, 2) := by decide +kernel
theorem dX10_undo_42 : decode cX10_undo 42 = .ok (.iaload, 1) := by decide +kernel
theorem dX10_undo_43 : decode cX10_undo 43 = .ok (.istore_n 2, 1) := by decide +kernel
theorem dX10_undo_44 : decode cX10_undo 44 = .ok (.aload_n 0, 1) := by decide +kernel
theorem dX10_undo_45 : decode cX10_undo 45 = .ok (.bipush 112, 2) := by decide +kernel
theorem dX10_undo_47 : decode cX10_undo 47 = .ok (.bipush 28, 2) := by decide +kernel
theorem dX10_undo_49 : decode cX10_undo 49 = .ok (.aload_n 0, 1) := by decide +kernel
theorem dX10_undo_50 : decode cX10_undo 50 = .ok (.getfield 163, 3) := by decide +kernel
theorem dX10_undo_53 : decode cX10_undo 53 = .ok (.imul, 1) := by decide +kernel
theorem dX10_undo_54 : decode cX10_undo 54 = .ok (.iadd, 1) := by decide +kernel
theorem dX10_undo_55 : decode cX10_undo 55 = .ok (.iconst 0, 1) := by decide +kernel
theorem dX10_undo_56 : decode cX10_undo 56 = .ok (.invokevirtual 191, 3) := by decide +kernel
theorem dX10_undo_59 : decode cX10_undo 59 = .ok (.aload_n 0, 1) := by decide +kernel
theorem dX10_undo_60 : decode cX10_undo 60 = .ok (.getfield 7, 3) := by decide +kernel
theorem dX10_undo_63 : decode cX10_undo 63 = .ok (.bipush 25, 2) := by decide +kernel
theorem dX10_undo_65 : decode cX10_undo 65 = .ok (.iload_n 2, 1) := by decide +kernel
theorem dX10_undo_66 : decode cX10_undo 66 = .ok (.iastore, 1) := by decide +kernel
theorem dX10_undo_67 : decode cX10_undo 67 = .ok (.aload_n 0, 1) := by decide +kernel
theorem dX10_undo_68 : decode cX10_undo 68 = .ok (.getfield 7, 3) := by decide +kernel
theorem dX10_undo_71 : decode cX10_undo 71 = .ok (.bipush 20, 2) := by decide +kernel
theorem dX10_undo_73 : decode cX10_undo 73 = .ok (.iaload, 1) := by decide +kernel
theorem dX10_undo_74 : decode cX10_undo 74 = .ok (.ireturn, 1) := by decide +kernel
theorem dX10_goOn_0 : decode cX10_goOn 0 = .ok (.iconst 0, 1) := by decide +kernel
theorem dX10_goOn_1 : decode cX10_goOn 1 = .ok (.istore_n 2, 1) := by decide +kernel
theorem dX10_goOn_2 : decode cX10_goOn 2 = .ok (.iload_n 2, 1) := by decide +kernel
theorem dX10_goOn_3 : decode cX10_goOn 3 = .ok (.iload_n 1, 1) := by decide +kernel
theorem dX10_goOn_4 : decode cX10_goOn 4 = .ok (.if_icmp .ge 25, 3) := by decide +kernel
theorem dX10_goOn_7 : decode cX10_goOn 7 = .ok (.aload_n 0, 1) := by decide +kernel
theorem dX10_goOn_8 : decode cX10_goOn 8 = .ok (.bipush 28, 2) := by decide +kernel
theorem dX10_goOn_10 : decode cX10_goOn 10 = .ok (.invokevirtual 166, 3) := by decide +kernel
theorem dX10_goOn_13 : decode cX10_goOn 13 = .ok (.ifCond .ne 16, 3) := by decide +kernel
theorem dX10_goOn_16 : decode cX10_goOn 16 = .ok (.aload_n 0, 1) := by decide +kernel
theorem dX10_goOn_17 : decode cX10_goOn 17 = .ok (.bipush 28, 2) := by decide +kernel
theorem dX10_goOn_19 : decode cX10_goOn 19 = .ok (.invokevirtual 204, 3) := by decide +kernel
theorem dX10_goOn_22 : decode cX10_goOn 22 = .ok (.istore_n 3, 1) := by decide +kernel
theorem dX10_goOn_23 : decode cX10_goOn 23 = .ok (.iinc 2 1, 3) := by decide +kernel
theorem dX10_goOn_26 : decode cX10_goOn 26 = .ok (.goto (-24), 3) := by decide +kernel
theorem dX10_goOn_29 : decode cX10_goOn 29 = .ok (.aload_n 0, 1) := by decide +kernel
theorem dX10_goOn_30 : decode cX10_goOn 30 = .ok (.bipush 28, 2) := by decide +kernel
theorem dX10_goOn_32 : decode cX10_goOn 32 = .ok (.invokevirtual 166, 3) := by decide +kernel
theorem dX10_goOn_35 : decode cX10_goOn 35 = .ok (.ifCond .eq 7, 3) := by decide +kernel
theorem dX10_goOn_38 : decode cX10_goOn 38 = .ok (.iload_n 2, 1) := by decide +kernel
theorem dX10_goOn_39 : decode cX10_goOn 39 = .ok (.goto 5, 3) := by decide +kernel
theorem dX10_goOn_42 : decode cX10_goOn 42 = .ok (.ldc 229, 2) := by decide +kernel
theorem dX10_goOn_44 : decode cX10_goOn 44 = .ok (.ireturn, 1) := by decide +kernel
theorem dX10_goOnNow_0 : decode cX10_goOnNow 0 = .ok (.aload_n 0, 1) := by decide +kernel
theorem dX10_goOnNow_1 : decode cX10_goOnNow 1 = .ok (.iconst 0, 1) := by decide +kernel
theorem dX10_goOnNow_2 : decode cX10_goOnNow 2 = .ok (.bipush 28, 2) := by decide +kernel
theorem dX10_goOnNow_4 : decode cX10_goOnNow 4 = .ok (.invokevirtual 191, 3) := by decide +kernel
theorem dX10_goOnNow_7 : decode cX10_goOnNow 7 = .ok (.aload_n 0, 1) := by decide +kernel
theorem dX10_goOnNow_8 : decode cX10_goOnNow 8 = .ok (.sipush 999, 3) := by decide +kernel
theorem dX10_goOnNow_11 : decode cX10_goOnNow 11 = .ok (.invokevirtual 230, 3) := by decide +kernel
theorem dX10_goOnNow_14 : decode cX10_goOnNow 14 = .ok (.ireturn, 1) := by decide +kernel
theorem dX10_toGo_0 : decode cX10_toGo 0 = .ok (.aload_n 0, 1) := by decide +kernel
theorem dX10_toGo_1 : decode cX10_toGo 1 = .ok (.invokevirtual 197, 3) := by decide +kernel
theorem dX10_toGo_4 : decode cX10_toGo 4 = .ok (.ifCond .ne 6, 3) := by decide +kernel
theorem dX10_toGo_7 : decode cX10_toGo 7 = .ok (.ldc 194, 2) := by decide +kernel
theorem dX10_toGo_9 : decode cX10_toGo 9 = .ok (.ireturn, 1) := by decide +kernel
theorem dX10_toGo_10 : decode cX10_toGo 10 = .ok (.aload_n 0, 1) := by decide +kernel
theorem dX10_toGo_11 : decode cX10_toGo 11 = .ok (.invokevirtual 233, 3) := by decide +kernel
theorem dX10_toGo_14 : decode cX10_toGo 14 = .ok (.istore_n 1, 1) := by decide +kernel
theorem dX10_toGo_15 : decode cX10_toGo 15 = .ok (.iload_n 1, 1) := by decide +kernel
theorem dX10_toGo_16 : decode cX10_toGo 16 = .ok (.ldc 229, 2) := by decide +kernel
theorem dX10_toGo_18 : decode cX10_toGo 18 = .ok (.if_icmp .ne 7, 3) := by decide +kernel
theorem dX10_toGo_21 : decode cX10_toGo 21 = .ok (.iconst (-1), 1) := by decide +kernel
theorem dX10_toGo_22 : decode cX10_toGo 22 = .ok (.goto 4, 3) := by decide +kernel
theorem dX10_toGo_25 : decode cX10_toGo 25 = .ok (.iload_n 1, 1) := by decide +kernel
theorem dX10_toGo_26 : decode cX10_toGo 26 = .ok (.ireturn, 1) := by decide +kernel
theorem dX10_beginFresh_0 : decode cX10_beginFresh 0 = .ok (.aload_n 0, 1) := by decide +kernel
theorem dX10_beginFresh_1 : decode cX10_beginFresh 1 = .ok (.iconst 0, 1) := by decide +kernel
theorem dX10_beginFresh_2 : decode cX10_beginFresh 2 = .ok (.bipush 28, 2) := by decide +kernel
theorem dX10_beginFresh_4 : decode cX10_beginFresh 4 = .ok (.invokevirtual 191, 3) := by decide +kernel
theorem dX10_beginFresh_7 : decode cX10_beginFresh 7 = .ok (.aload_n 0, 1) := by decide +kernel
theorem dX10_beginFresh_8 : decode cX10_beginFresh 8 = .ok (.bipush 28, 2) := by decide +kernel
theorem dX10_beginFresh_10 : decode cX10_beginFresh 10 = .ok (.iload_n 1, 1) := by decide +kernel
theorem dX10_beginFresh_11 : decode cX10_beginFresh 11 = .ok (.iload_n 2, 1) := by decide +kernel
theorem dX10_beginFresh_12 : decode cX10_beginFresh 12 = .ok (.invokevirtual 153, 3) := by decide +kernel
theorem dX10_beginFresh_15 : decode cX10_beginFresh 15 = .ok (.aload_n 0, 1) := by decide +kernel
theorem dX10_beginFresh_16 : decode cX10_beginFresh 16 = .ok (.getfield 7, 3) := by decide +kernel
theorem dX10_beginFresh_19 : decode cX10_beginFresh 19 = .ok (.bipush 28, 2) := by decide +kernel
theorem dX10_beginFresh_21 : decode cX10_beginFresh 21 = .ok (.iload_n 1, 1) := by decide +kernel
theorem dX10_beginFresh_22 : decode cX10_beginFresh 22 = .ok (.iadd, 1) := by decide +kernel
theorem dX10_beginFresh_23 : decode cX10_beginFresh 23 = .ok (.aload_n 0, 1) := by decide +kernel
theorem dX10_beginFresh_24 : decode cX10_beginFresh 24 = .ok (.getfield 20, 3) := by decide +kernel
theorem dX10_beginFresh_27 : decode cX10_beginFresh 27 = .ok (.iload_n 1, 1) := by decide +kernel
theorem dX10_beginFresh_28 : decode cX10_beginFresh 28 = .ok (.iaload, 1) := by decide +kernel
theorem dX10_beginFresh_29 : decode cX10_beginFresh 29 = .ok (.iastore, 1) := by decide +kernel
theorem dX10_beginFresh_30 : decode cX10_beginFresh 30 = .ok (.aload_n 0, 1) := by decide +kernel
theorem dX10_beginFresh_31 : decode cX10_beginFresh 31 = .ok (.getfield 7, 3) := by decide +kernel
theorem dX10_beginFresh_34 : decode cX10_beginFresh 34 = .ok (.bipush 28, 2) := by decide +kernel
theorem dX10_beginFresh_36 : decode cX10_beginFresh 36 = .ok (.iload_n 2, 1) := by decide +kernel
theorem dX10_beginFresh_37 : decode cX10_beginFresh 37 = .ok (.iadd, 1) := by decide +kernel
theorem dX10_beginFresh_38 : decode cX10_beginFresh 38 = .ok (.aload_n 0, 1) := by decide +kernel
theorem dX10_beginFresh_39 : decode cX10_beginFresh 39 = .ok (.getfield 20, 3) := by decide +kernel
theorem dX10_beginFresh_42 : decode cX10_beginFresh 42 = .ok (.iload_n 2, 1) := by decide +kernel
theorem dX10_beginFresh_43 : decode cX10_beginFresh 43 = .ok (.iaload, 1) := by decide +kernel
theorem dX10_beginFresh_44 : decode cX10_beginFresh 44 = .ok (.iastore, 1) := by decide +kernel
theorem dX10_beginFresh_45 : decode cX10_beginFresh 45 = .ok (.return_, 1) := by decide +kernel
theorem dX10_freshOf_0 : decode cX10_freshOf 0 = .ok (.aload_n 0, 1) := by decide +kernel
theorem dX10_freshOf_1 : decode cX10_freshOf 1 = .ok (.iload_n 1, 1) := by decide +kernel
theorem dX10_freshOf_2 : decode cX10_freshOf 2 = .ok (.iload_n 2, 1) := by decide +kernel
theorem dX10_freshOf_3 : decode cX10_freshOf 3 = .ok (.invokevirtual 236, 3) := by decide +kernel
theorem dX10_freshOf_6 : decode cX10_freshOf 6 = .ok (.aload_n 0, 1) := by decide +kernel
theorem dX10_freshOf_7 : decode cX10_freshOf 7 = .ok (.sipush 999, 3) := by decide +kernel
theorem dX10_freshOf_10 : decode cX10_freshOf 10 = .ok (.invokevirtual 230, 3) := by decide +kernel
theorem dX10_freshOf_13 : decode cX10_freshOf 13 = .ok (.ireturn, 1) := by decide +kernel
theorem dX10_refusedTwo_0 : decode cX10_refusedTwo 0 = .ok (.aload_n 0, 1) := by decide +kernel
theorem dX10_refusedTwo_1 : decode cX10_refusedTwo 1 = .ok (.iload_n 1, 1) := by decide +kernel
theorem dX10_refusedTwo_2 : decode cX10_refusedTwo 2 = .ok (.invokevirtual 175, 3) := by decide +kernel
theorem dX10_refusedTwo_5 : decode cX10_refusedTwo 5 = .ok (.ifCond .eq 16, 3) := by decide +kernel
theorem dX10_refusedTwo_8 : decode cX10_refusedTwo 8 = .ok (.aload_n 0, 1) := by decide +kernel
theorem dX10_refusedTwo_9 : decode cX10_refusedTwo 9 = .ok (.iload_n 2, 1) := by decide +kernel
theorem dX10_refusedTwo_10 : decode cX10_refusedTwo 10 = .ok (.invokevirtual 175, 3) := by decide +kernel
theorem dX10_refusedTwo_13 : decode cX10_refusedTwo 13 = .ok (.ifCond .eq 8, 3) := by decide +kernel
theorem dX10_refusedTwo_16 : decode cX10_refusedTwo 16 = .ok (.iload_n 1, 1) := by decide +kernel
theorem dX10_refusedTwo_17 : decode cX10_refusedTwo 17 = .ok (.iload_n 2, 1) := by decide +kernel
theorem dX10_refusedTwo_18 : decode cX10_refusedTwo 18 = .ok (.if_icmp .ne 8, 3) := by decide +kernel
theorem dX10_refusedTwo_21 : decode cX10_refusedTwo 21 = .ok (.ldc 174, 2) := by decide +kernel
theorem dX10_refusedTwo_23 : decode cX10_refusedTwo 23 = .ok (.goto 16, 3) := by decide +kernel
theorem dX10_refusedTwo_26 : decode cX10_refusedTwo 26 = .ok (.aload_n 0, 1) := by decide +kernel
theorem dX10_refusedTwo_27 : decode cX10_refusedTwo 27 = .ok (.getfield 144, 3) := by decide +kernel
theorem dX10_refusedTwo_30 : decode cX10_refusedTwo 30 = .ok (.ifCond .ne 8, 3) := by decide +kernel
theorem dX10_refusedTwo_33 : decode cX10_refusedTwo 33 = .ok (.ldc 194, 2) := by decide +kernel
theorem dX10_refusedTwo_35 : decode cX10_refusedTwo 35 = .ok (.goto 4, 3) := by decide +kernel
theorem dX10_refusedTwo_38 : decode cX10_refusedTwo 38 = .ok (.iconst 0, 1) := by decide +kernel
theorem dX10_refusedTwo_39 : decode cX10_refusedTwo 39 = .ok (.ireturn, 1) := by decide +kernel
theorem dX10_fresh_0 : decode cX10_fresh 0 = .ok (.aload_n 0, 1) := by decide +kernel
theorem dX10_fresh_1 : decode cX10_fresh 1 = .ok (.iload_n 1, 1) := by decide +kernel
theorem dX10_fresh_2 : decode cX10_fresh 2 = .ok (.iload_n 2, 1) := by decide +kernel
theorem dX10_fresh_3 : decode cX10_fresh 3 = .ok (.invokevirtual 239, 3) := by decide +kernel
theorem dX10_fresh_6 : decode cX10_fresh 6 = .ok (.ifCond .ge 10, 3) := by decide +kernel
theorem dX10_fresh_9 : decode cX10_fresh 9 = .ok (.aload_n 0, 1) := by decide +kernel
theorem dX10_fresh_10 : decode cX10_fresh 10 = .ok (.iload_n 1, 1) := by decide +kernel
theorem dX10_fresh_11 : decode cX10_fresh 11 = .ok (.iload_n 2, 1) := by decide +kernel
theorem dX10_fresh_12 : decode cX10_fresh 12 = .ok (.invokevirtual 239, 3) := by decide +kernel
theorem dX10_fresh_15 : decode cX10_fresh 15 = .ok (.ireturn, 1) := by decide +kernel
theorem dX10_fresh_16 : decode cX10_fresh 16 = .ok (.aload_n 0, 1) := by decide +kernel
theorem dX10_fresh_17 : decode cX10_fresh 17 = .ok (.iload_n 1, 1) := by decide +kernel
theorem dX10_fresh_18 : decode cX10_fresh 18 = .ok (.iload_n 2, 1) := by decide +kernel
theorem dX10_fresh_19 : decode cX10_fresh 19 = .ok (.invokevirtual 242, 3) := by decide +kernel
theorem dX10_fresh_22 : decode cX10_fresh 22 = .ok (.istore_n 3, 1) := by decide +kernel
theorem dX10_fresh_23 : decode cX10_fresh 23 = .ok (.iload_n 3, 1) := by decide +kernel
theorem dX10_fresh_24 : decode cX10_fresh 24 = .ok (.ldc 229, 2) := by decide +kernel
theorem dX10_fresh_26 : decode cX10_fresh 26 = .ok (.if_icmp .ne 7, 3) := by decide +kernel
theorem dX10_fresh_29 : decode cX10_fresh 29 = .ok (.iconst (-1), 1) := by decide +kernel
theorem dX10_fresh_30 : decode cX10_fresh 30 = .ok (.goto 4, 3) := by decide +kernel
theorem dX10_fresh_33 : decode cX10_fresh 33 = .ok (.iload_n 3, 1) := by decide +kernel
theorem dX10_fresh_34 : decode cX10_fresh 34 = .ok (.ireturn, 1) := by decide +kernel
theorem dX10_wishes_0 : decode cX10_wishes 0 = .ok (.aload_n 0, 1) := by decide +kernel
theorem dX10_wishes_1 : decode cX10_wishes 1 = .ok (.iload_n 1, 1) := by decide +kernel
theorem dX10_wishes_2 : decode cX10_wishes 2 = .ok (.invokevirtual 175, 3) := by decide +kernel
theorem dX10_wishes_5 : decode cX10_wishes 5 = .ok (.ifCond .eq 16, 3) := by decide +kernel
theorem dX10_wishes_8 : decode cX10_wishes 8 = .ok (.aload_n 0, 1) := by decide +kernel
theorem dX10_wishes_9 : decode cX10_wishes 9 = .ok (.iload_n 2, 1) := by decide +kernel
theorem dX10_wishes_10 : decode cX10_wishes 10 = .ok (.invokevirtual 175, 3) := by decide +kernel
theorem dX10_wishes_13 : decode cX10_wishes 13 = .ok (.ifCond .eq 8, 3) := by decide +kernel
theorem dX10_wishes_16 : decode cX10_wishes 16 = .ok (.iload_n 1, 1) := by decide +kernel
theorem dX10_wishes_17 : decode cX10_wishes 17 = .ok (.iload_n 2, 1) := by decide +kernel
theorem dX10_wishes_18 : decode cX10_wishes 18 = .ok (.if_icmp .ne 6, 3) := by decide +kernel
theorem dX10_wishes_21 : decode cX10_wishes 21 = .ok (.ldc 174, 2) := by decide +kernel
theorem dX10_wishes_23 : decode cX10_wishes 23 = .ok (.ireturn, 1) := by decide +kernel
theorem dX10_wishes_24 : decode cX10_wishes 24 = .ok (.iload_n 3, 1) := by decide +kernel
theorem dX10_wishes_25 : decode cX10_wishes 25 = .ok (.i2l, 1) := by decide +kernel
theorem dX10_wishes_26 : decode cX10_wishes 26 = .ok (.lconst 0, 1) := by decide +kernel
theorem dX10_wishes_27 : decode cX10_wishes 27 = .ok (.ldc2_w 245, 3) := by decide +kernel
theorem dX10_wishes_30 : decode cX10_wishes 30 = .ok (.invokestatic 68, 3) := by decide +kernel
theorem dX10_wishes_33 : decode cX10_wishes 33 = .ok (.ifCond .ne 6, 3) := by decide +kernel
theorem dX10_wishes_36 : decode cX10_wishes 36 = .ok (.ldc 72, 2) := by decide +kernel
theorem dX10_wishes_38 : decode cX10_wishes 38 = .ok (.ireturn, 1) := by decide +kernel
theorem dX10_wishes_39 : decode cX10_wishes 39 = .ok (.aload_n 0, 1) := by decide +kernel
theorem dX10_wishes_40 : decode cX10_wishes 40 = .ok (.getfield 144, 3) := by decide +kernel
theorem dX10_wishes_43 : decode cX10_wishes 43 = .ok (.ifCond .ne 6, 3) := by decide +kernel
theorem dX10_wishes_46 : decode cX10_wishes 46 = .ok (.ldc 194, 2) := by decide +kernel
theorem dX10_wishes_48 : decode cX10_wishes 48 = .ok (.ireturn, 1) := by decide +kernel
theorem dX10_wishes_49 : decode cX10_wishes 49 = .ok (.iconst (-1), 1) := by decide +kernel
theorem dX10_wishes_50 : decode cX10_wishes 50 = .ok (.istore 4, 2) := by decide +kernel
theorem dX10_wishes_52 : decode cX10_wishes 52 = .ok (.ldc 229, 2) := by decide +kernel
theorem dX10_wishes_54 : decode cX10_wishes 54 = .ok (.istore 5, 2) := by decide +kernel
theorem dX10_wishes_56 : decode cX10_wishes 56 = .ok (.iconst 0, 1) := by decide +kernel
theorem dX10_wishes_57 : decode cX10_wishes 57 = .ok (.istore 6, 2) := by decide +kernel
theorem dX10_wishes_59 : decode cX10_wishes 59 = .ok (.iload 6, 2) := by decide +kernel
theorem dX10_wishes_61 : decode cX10_wishes 61 = .ok (.sipush 400, 3) := by decide +kernel
theorem dX10_wishes_64 : decode cX10_wishes 64 = .ok (.if_icmp .ge 71, 3) := by decide +kernel
theorem dX10_wishes_67 : decode cX10_wishes 67 = .ok (.aload_n 0, 1) := by decide +kernel
theorem dX10_wishes_68 : decode cX10_wishes 68 = .ok (.iload_n 1, 1) := by decide +kernel
theorem dX10_wishes_69 : decode cX10_wishes 69 = .ok (.iload_n 2, 1) := by decide +kernel
theorem dX10_wishes_70 : decode cX10_wishes 70 = .ok (.invokevirtual 236, 3) := by decide +kernel
theorem dX10_wishes_73 : decode cX10_wishes 73 = .ok (.aload_n 0, 1) := by decide +kernel
theorem dX10_wishes_74 : decode cX10_wishes 74 = .ok (.getfield 7, 3) := by decide +kernel
theorem dX10_wishes_77 : decode cX10_wishes 77 = .ok (.bipush 28, 2) := by decide +kernel
theorem dX10_wishes_79 : decode cX10_wishes 79 = .ok (.iload_n 1, 1) := by decide +kernel
theorem dX10_wishes_80 : decode cX10_wishes 80 = .ok (.iadd, 1) := by decide +kernel
theorem dX10_wishes_81 : decode cX10_wishes 81 = .ok (.iconst 1, 1) := by decide +kernel
theorem dX10_wishes_82 : decode cX10_wishes 82 = .ok (.iload 6, 2) := by decide +kernel
theorem dX10_wishes_84 : decode cX10_wishes 84 = .ok (.bipush 20, 2) := by decide +kernel
theorem dX10_wishes_86 : decode cX10_wishes 86 = .ok (.idiv, 1) := by decide +kernel
theorem dX10_wishes_87 : decode cX10_wishes 87 = .ok (.iadd, 1) := by decide +kernel
theorem dX10_wishes_88 : decode cX10_wishes 88 = .ok (.iastore, 1) := by decide +kernel
theorem dX10_wishes_89 : decode cX10_wishes 89 = .ok (.aload_n 0, 1) := by decide +kernel
theorem dX10_wishes_90 : decode cX10_wishes 90 = .ok (.getfield 7, 3) := by decide +kernel
theorem dX10_wishes_93 : decode cX10_wishes 93 = .ok (.bipush 28, 2) := by decide +kernel
theorem dX10_wishes_95 : decode cX10_wishes 95 = .ok (.iload_n 2, 1) := by decide +kernel
theorem dX10_wishes_96 : decode cX10_wishes 96 = .ok (.iadd, 1) := by decide +kernel
theorem dX10_wishes_97 : decode cX10_wishes 97 = .ok (.iconst 1, 1) := by decide +kernel
theorem dX10_wishes_98 : decode cX10_wishes 98 = .ok (.iload 6, 2) := by decide +kernel
theorem dX10_wishes_100 : decode cX10_wishes 100 = .ok (.bipush 20, 2) := by decide +kernel
theorem dX10_wishes_102 : decode cX10_wishes 102 = .ok (.irem, 1) := by decide +kernel
theorem dX10_wishes_103 : decode cX10_wishes 103 = .ok (.iadd, 1) := by decide +kernel
theorem dX10_wishes_104 : decode cX10_wishes 104 = .ok (.iastore, 1) := by decide +kernel
theorem dX10_wishes_105 : decode cX10_wishes 105 = .ok (.aload_n 0, 1) := by decide +kernel
theorem dX10_wishes_106 : decode cX10_wishes 106 = .ok (.sipush 999, 3) := by decide +kernel
theorem dX10_wishes_109 : decode cX10_wishes 109 = .ok (.invokevirtual 230, 3) := by decide +kernel
theorem dX10_wishes_112 : decode cX10_wishes 112 = .ok (.istore 7, 2) := by decide +kernel
theorem dX10_wishes_114 : decode cX10_wishes 114 = .ok (.iload 7, 2) := by decide +kernel
theorem dX10_wishes_116 : decode cX10_wishes 116 = .ok (.iload 5, 2) := by decide +kernel
theorem dX10_wishes_118 : decode cX10_wishes 118 = .ok (.if_icmp .ge 11, 3) := by decide +kernel
theorem dX10_wishes_121 : decode cX10_wishes 121 = .ok (.iload 6, 2) := by decide +kernel
theorem dX10_wishes_123 : decode cX10_wishes 123 = .ok (.istore 4, 2) := by decide +kernel
theorem dX10_wishes_125 : decode cX10_wishes 125 = .ok (.iload 7, 2) := by decide +kernel
theorem dX10_wishes_127 : decode cX10_wishes 127 = .ok (.istore 5, 2) := by decide +kernel
theorem dX10_wishes_129 : decode cX10_wishes 129 = .ok (.iinc 6 1, 3) := by decide +kernel
theorem dX10_wishes_132 : decode cX10_wishes 132 = .ok (.goto (-73), 3) := by decide +kernel
theorem dX10_wishes_135 : decode cX10_wishes 135 = .ok (.iload 4, 2) := by decide +kernel
theorem dX10_wishes_137 : decode cX10_wishes 137 = .ok (.ifCond .ge 7, 3) := by decide +kernel
theorem dX10_wishes_140 : decode cX10_wishes 140 = .ok (.iconst (-1), 1) := by decide +kernel
theorem dX10_wishes_141 : decode cX10_wishes 141 = .ok (.goto 34, 3) := by decide +kernel
theorem dX10_wishes_144 : decode cX10_wishes 144 = .ok (.iload_n 3, 1) := by decide +kernel
theorem dX10_wishes_145 : decode cX10_wishes 145 = .ok (.ifCond .ne 8, 3) := by decide +kernel
theorem dX10_wishes_148 : decode cX10_wishes 148 = .ok (.iload 5, 2) := by decide +kernel
theorem dX10_wishes_150 : decode cX10_wishes 150 = .ok (.goto 25, 3) := by decide +kernel
theorem dX10_wishes_153 : decode cX10_wishes 153 = .ok (.iload_n 3, 1) := by decide +kernel
theorem dX10_wishes_154 : decode cX10_wishes 154 = .ok (.iconst 1, 1) := by decide +kernel
theorem dX10_wishes_155 : decode cX10_wishes 155 = .ok (.if_icmp .ne 13, 3) := by decide +kernel
theorem dX10_wishes_158 : decode cX10_wishes 158 = .ok (.iconst 1, 1) := by decide +kernel
theorem dX10_wishes_159 : decode cX10_wishes 159 = .ok (.iload 4, 2) := by decide +kernel
theorem dX10_wishes_161 : decode cX10_wishes 161 = .ok (.bipush 20, 2) := by decide +kernel
theorem dX10_wishes_163 : decode cX10_wishes 163 = .ok (.idiv, 1) := by decide +kernel
theorem dX10_wishes_164 : decode cX10_wishes 164 = .ok (.iadd, 1) := by decide +kernel
theorem dX10_wishes_165 : decode cX10_wishes 165 = .ok (.goto 10, 3) := by decide +kernel
theorem dX10_wishes_168 : decode cX10_wishes 168 = .ok (.iconst 1, 1) := by decide +kernel
theorem dX10_wishes_169 : decode cX10_wishes 169 = .ok (.iload 4, 2) := by decide +kernel
theorem dX10_wishes_171 : decode cX10_wishes 171 = .ok (.bipush 20, 2) := by decide +kernel
theorem dX10_wishes_173 : decode cX10_wishes 173 = .ok (.irem, 1) := by decide +kernel
theorem dX10_wishes_174 : decode cX10_wishes 174 = .ok (.iadd, 1) := by decide +kernel
theorem dX10_wishes_175 : decode cX10_wishes 175 = .ok (.ireturn, 1) := by decide +kernel
theorem dX10_quarrels_0 : decode cX10_quarrels 0 = .ok (.aload_n 0, 1) := by decide +kernel
theorem dX10_quarrels_1 : decode cX10_quarrels 1 = .ok (.getfield 7, 3) := by decide +kernel
theorem dX10_quarrels_4 : decode cX10_quarrels 4 = .ok (.bipush 36, 2) := by decide +kernel
theorem dX10_quarrels_6 : decode cX10_quarrels 6 = .ok (.iload_n 1, 1) := by decide +kernel
theorem dX10_quarrels_7 : decode cX10_quarrels 7 = .ok (.iadd, 1) := by decide +kernel
theorem dX10_quarrels_8 : decode cX10_quarrels 8 = .ok (.iaload, 1) := by decide +kernel
theorem dX10_quarrels_9 : decode cX10_quarrels 9 = .ok (.bipush 9, 2) := by decide +kernel
theorem dX10_quarrels_11 : decode cX10_quarrels 11 = .ok (.if_icmp .eq 17, 3) := by decide +kernel
theorem dX10_quarrels_14 : decode cX10_quarrels 14 = .ok (.aload_n 0, 1) := by decide +kernel
theorem dX10_quarrels_15 : decode cX10_quarrels 15 = .ok (.getfield 7, 3) := by decide +kernel
theorem dX10_quarrels_18 : decode cX10_quarrels 18 = .ok (.bipush 36, 2) := by decide +kernel
theorem dX10_quarrels_20 : decode cX10_quarrels 20 = .ok (.iload_n 1, 1) := by decide +kernel
theorem dX10_quarrels_21 : decode cX10_quarrels 21 = .ok (.iadd, 1) := by decide +kernel
theorem dX10_quarrels_22 : decode cX10_quarrels 22 = .ok (.iaload, 1) := by decide +kernel
theorem dX10_quarrels_23 : decode cX10_quarrels 23 = .ok (.bipush (-9), 2) := by decide +kernel
theorem dX10_quarrels_25 : decode cX10_quarrels 25 = .ok (.if_icmp .ne 7, 3) := by decide +kernel
theorem dX10_quarrels_28 : decode cX10_quarrels 28 = .ok (.iconst 1, 1) := by decide +kernel
theorem dX10_quarrels_29 : decode cX10_quarrels 29 = .ok (.goto 4, 3) := by decide +kernel
theorem dX10_quarrels_32 : decode cX10_quarrels 32 = .ok (.iconst 0, 1) := by decide +kernel
theorem dX10_quarrels_33 : decode cX10_quarrels 33 = .ok (.ireturn, 1) := by decide +kernel
theorem dX10_quarrel_0 : decode cX10_quarrel 0 = .ok (.aload_n 0, 1) := by decide +kernel
theorem dX10_quarrel_1 : decode cX10_quarrel 1 = .ok (.iload_n 1, 1) := by decide +kernel
theorem dX10_quarrel_2 : decode cX10_quarrel 2 = .ok (.iload_n 2, 1) := by decide +kernel
theorem dX10_quarrel_3 : decode cX10_quarrel 3 = .ok (.invokevirtual 239, 3) := by decide +kernel
theorem dX10_quarrel_6 : decode cX10_quarrel 6 = .ok (.ifCond .ge 10, 3) := by decide +kernel
theorem dX10_quarrel_9 : decode cX10_quarrel 9 = .ok (.aload_n 0, 1) := by decide +kernel
theorem dX10_quarrel_10 : decode cX10_quarrel 10 = .ok (.iload_n 1, 1) := by decide +kernel
theorem dX10_quarrel_11 : decode cX10_quarrel 11 = .ok (.iload_n 2, 1) := by decide +kernel
theorem dX10_quarrel_12 : decode cX10_quarrel 12 = .ok (.invokevirtual 239, 3) := by decide +kernel
theorem dX10_quarrel_15 : decode cX10_quarrel 15 = .ok (.ireturn, 1) := by decide +kernel
theorem dX10_quarrel_16 : decode cX10_quarrel 16 = .ok (.aload_n 0, 1) := by decide +kernel
theorem dX10_quarrel_17 : decode cX10_quarrel 17 = .ok (.iload_n 1, 1) := by decide +kernel
theorem dX10_quarrel_18 : decode cX10_quarrel 18 = .ok (.iload_n 2, 1) := by decide +kernel
theorem dX10_quarrel_19 : decode cX10_quarrel 19 = .ok (.invokevirtual 236, 3) := by decide +kernel
theorem dX10_quarrel_22 : decode cX10_quarrel 22 = .ok (.iconst 1, 1) := by decide +kernel
theorem dX10_quarrel_23 : decode cX10_quarrel 23 = .ok (.istore_n 3, 1) := by decide +kernel
theorem dX10_quarrel_24 : decode cX10_quarrel 24 = .ok (.iload_n 3, 1) := by decide +kernel
theorem dX10_quarrel_25 : decode cX10_quarrel 25 = .ok (.bipush 100, 2) := by decide +kernel
theorem dX10_quarrel_27 : decode cX10_quarrel 27 = .ok (.if_icmp .ge 44, 3) := by decide +kernel
theorem dX10_quarrel_30 : decode cX10_quarrel 30 = .ok (.aload_n 0, 1) := by decide +kernel
theorem dX10_quarrel_31 : decode cX10_quarrel 31 = .ok (.bipush 28, 2) := by decide +kernel
theorem dX10_quarrel_33 : decode cX10_quarrel 33 = .ok (.invokevirtual 166, 3) := by decide +kernel
theorem dX10_quarrel_36 : decode cX10_quarrel 36 = .ok (.ifCond .ne 35, 3) := by decide +kernel
theorem dX10_quarrel_39 : decode cX10_quarrel 39 = .ok (.aload_n 0, 1) := by decide +kernel
theorem dX10_quarrel_40 : decode cX10_quarrel 40 = .ok (.bipush 28, 2) := by decide +kernel
theorem dX10_quarrel_42 : decode cX10_quarrel 42 = .ok (.invokevirtual 204, 3) := by decide +kernel
theorem dX10_quarrel_45 : decode cX10_quarrel 45 = .ok (.istore 4, 2) := by decide +kernel
theorem dX10_quarrel_47 : decode cX10_quarrel 47 = .ok (.aload_n 0, 1) := by decide +kernel
theorem dX10_quarrel_48 : decode cX10_quarrel 48 = .ok (.iload_n 1, 1) := by decide +kernel
theorem dX10_quarrel_49 : decode cX10_quarrel 49 = .ok (.invokevirtual 247, 3) := by decide +kernel
theorem dX10_quarrel_52 : decode cX10_quarrel 52 = .ok (.ifCond .ne 11, 3) := by decide +kernel
theorem dX10_quarrel_55 : decode cX10_quarrel 55 = .ok (.aload_n 0, 1) := by decide +kernel
theorem dX10_quarrel_56 : decode cX10_quarrel 56 = .ok (.iload_n 2, 1) := by decide +kernel
theorem dX10_quarrel_57 : decode cX10_quarrel 57 = .ok (.invokevirtual 247, 3) := by decide +kernel
theorem dX10_quarrel_60 : decode cX10_quarrel 60 = .ok (.ifCond .eq 5, 3) := by decide +kernel
theorem dX10_quarrel_63 : decode cX10_quarrel 63 = .ok (.iload_n 3, 1) := by decide +kernel
theorem dX10_quarrel_64 : decode cX10_quarrel 64 = .ok (.ireturn, 1) := by decide +kernel
theorem dX10_quarrel_65 : decode cX10_quarrel 65 = .ok (.iinc 3 1, 3) := by decide +kernel
theorem dX10_quarrel_68 : decode cX10_quarrel 68 = .ok (.goto (-44), 3) := by decide +kernel
theorem dX10_quarrel_71 : decode cX10_quarrel 71 = .ok (.iconst (-1), 1) := by decide +kernel
theorem dX10_quarrel_72 : decode cX10_quarrel 72 = .ok (.ireturn, 1) := by decide +kernel
theorem dX10_withWhom_0 : decode cX10_withWhom 0 = .ok (.iload_n 1, 1) := by decide +kernel
theorem dX10_withWhom_1 : decode cX10_withWhom 1 = .ok (.i2l, 1) := by decide +kernel
theorem dX10_withWhom_2 : decode cX10_withWhom 2 = .ok (.lconst 0, 1) := by decide +kernel
theorem dX10_withWhom_3 : decode cX10_withWhom 3 = .ok (.lconst 1, 1) := by decide +kernel
theorem dX10_withWhom_4 : decode cX10_withWhom 4 = .ok (.invokestatic 68, 3) := by decide +kernel
theorem dX10_withWhom_7 : decode cX10_withWhom 7 = .ok (.ifCond .ne 6, 3) := by decide +kernel
theorem dX10_withWhom_10 : decode cX10_withWhom 10 = .ok (.ldc 72, 2) := by decide +kernel
theorem dX10_withWhom_12 : decode cX10_withWhom 12 = .ok (.ireturn, 1) := by decide +kernel
theorem dX10_withWhom_13 : decode cX10_withWhom 13 = .ok (.aload_n 0, 1) := by decide +kernel
theorem dX10_withWhom_14 : decode cX10_withWhom 14 = .ok (.getfield 144, 3) := by decide +kernel
theorem dX10_withWhom_17 : decode cX10_withWhom 17 = .ok (.ifCond .ne 6, 3) := by decide +kernel
theorem dX10_withWhom_20 : decode cX10_withWhom 20 = .ok (.ldc 194, 2) := by decide +kernel
theorem dX10_withWhom_22 : decode cX10_withWhom 22 = .ok (.ireturn, 1) := by decide +kernel
theorem dX10_withWhom_23 : decode cX10_withWhom 23 = .ok (.iconst (-1), 1) := by decide +kernel
theorem dX10_withWhom_24 : decode cX10_withWhom 24 = .ok (.istore_n 2, 1) := by decide +kernel
theorem dX10_withWhom_25 : decode cX10_withWhom 25 = .ok (.ldc 229, 2) := by decide +kernel
theorem dX10_withWhom_27 : decode cX10_withWhom 27 = .ok (.istore_n 3, 1) := by decide +kernel
theorem dX10_withWhom_28 : decode cX10_withWhom 28 = .ok (.ldc 229, 2) := by decide +kernel
theorem dX10_withWhom_30 : decode cX10_withWhom 30 = .ok (.istore 4, 2) := by decide +kernel
theorem dX10_withWhom_32 : decode cX10_withWhom 32 = .ok (.iconst 1, 1) := by decide +kernel
theorem dX10_withWhom_33 : decode cX10_withWhom 33 = .ok (.istore 5, 2) := by decide +kernel
theorem dX10_withWhom_35 : decode cX10_withWhom 35 = .ok (.iload 5, 2) := by decide +kernel
theorem dX10_withWhom_37 : decode cX10_withWhom 37 = .ok (.iconst 4, 1) := by decide +kernel
theorem dX10_withWhom_38 : decode cX10_withWhom 38 = .ok (.if_icmp .ge 122, 3) := by decide +kernel
theorem dX10_withWhom_41 : decode cX10_withWhom 41 = .ok (.aload_n 0, 1) := by decide +kernel
theorem dX10_withWhom_42 : decode cX10_withWhom 42 = .ok (.getfield 147, 3) := by decide +kernel
theorem dX10_withWhom_45 : decode cX10_withWhom 45 = .ok (.iconst 4, 1) := by decide +kernel
theorem dX10_withWhom_46 : decode cX10_withWhom 46 = .ok (.if_icmp .ne 114, 3) := by decide +kernel
theorem dX10_withWhom_49 : decode cX10_withWhom 49 = .ok (.aload_n 0, 1) := by decide +kernel
theorem dX10_withWhom_50 : decode cX10_withWhom 50 = .ok (.iconst 0, 1) := by decide +kernel
theorem dX10_withWhom_51 : decode cX10_withWhom 51 = .ok (.iload 5, 2) := by decide +kernel
theorem dX10_withWhom_53 : decode cX10_withWhom 53 = .ok (.invokevirtual 242, 3) := by decide +kernel
theorem dX10_withWhom_56 : decode cX10_withWhom 56 = .ok (.istore 6, 2) := by decide +kernel
theorem dX10_withWhom_58 : decode cX10_withWhom 58 = .ok (.iload 5, 2) := by decide +kernel
theorem dX10_withWhom_60 : decode cX10_withWhom 60 = .ok (.iconst 1, 1) := by decide +kernel
theorem dX10_withWhom_61 : decode cX10_withWhom 61 = .ok (.if_icmp .ne 12, 3) := by decide +kernel
theorem dX10_withWhom_64 : decode cX10_withWhom 64 = .ok (.aload_n 0, 1) := by decide +kernel
theorem dX10_withWhom_65 : decode cX10_withWhom 65 = .ok (.iconst 2, 1) := by decide +kernel
theorem dX10_withWhom_66 : decode cX10_withWhom 66 = .ok (.iconst 3, 1) := by decide +kernel
theorem dX10_withWhom_67 : decode cX10_withWhom 67 = .ok (.invokevirtual 242, 3) := by decide +kernel
theorem dX10_withWhom_70 : decode cX10_withWhom 70 = .ok (.goto 24, 3) := by decide +kernel
theorem dX10_withWhom_73 : decode cX10_withWhom 73 = .ok (.iload 5, 2) := by decide +kernel
theorem dX10_withWhom_75 : decode cX10_withWhom 75 = .ok (.iconst 2, 1) := by decide +kernel
theorem dX10_withWhom_76 : decode cX10_withWhom 76 = .ok (.if_icmp .ne 12, 3) := by decide +kernel
theorem dX10_withWhom_79 : decode cX10_withWhom 79 = .ok (.aload_n 0, 1) := by decide +kernel
theorem dX10_withWhom_80 : decode cX10_withWhom 80 = .ok (.iconst 1, 1) := by decide +kernel
theorem dX10_withWhom_81 : decode cX10_withWhom 81 = .ok (.iconst 3, 1) := by decide +kernel
theorem dX10_withWhom_82 : decode cX10_withWhom 82 = .ok (.invokevirtual 242, 3) := by decide +kernel
theorem dX10_withWhom_85 : decode cX10_withWhom 85 = .ok (.goto 9, 3) := by decide +kernel
theorem dX10_withWhom_88 : decode cX10_withWhom 88 = .ok (.aload_n 0, 1) := by decide +kernel
theorem dX10_withWhom_89 : decode cX10_withWhom 89 = .ok (.iconst 1, 1) := by decide +kernel
theorem dX10_withWhom_90 : decode cX10_withWhom 90 = .ok (.iconst 2, 1) := by decide +kernel
theorem dX10_withWhom_91 : decode cX10_withWhom 91 = .ok (.invokevirtual 242, 3) := by decide +kernel
theorem dX10_withWhom_94 : decode cX10_withWhom 94 = .ok (.istore 7, 2) := by decide +kernel
theorem dX10_withWhom_96 : decode cX10_withWhom 96 = .ok (.iload 6, 2) := by decide +kernel
theorem dX10_withWhom_98 : decode cX10_withWhom 98 = .ok (.iload 7, 2) := by decide +kernel
theorem dX10_withWhom_100 : decode cX10_withWhom 100 = .ok (.if_icmp .le 8, 3) := by decide +kernel
theorem dX10_withWhom_103 : decode cX10_withWhom 103 = .ok (.iload 6, 2) := by decide +kernel
theorem dX10_withWhom_105 : decode cX10_withWhom 105 = .ok (.goto 5, 3) := by decide +kernel
theorem dX10_withWhom_108 : decode cX10_withWhom 108 = .ok (.iload 7, 2) := by decide +kernel
theorem dX10_withWhom_110 : decode cX10_withWhom 110 = .ok (.istore 8, 2) := by decide +kernel
theorem dX10_withWhom_112 : decode cX10_withWhom 112 = .ok (.iload 8, 2) := by decide +kernel
theorem dX10_withWhom_114 : decode cX10_withWhom 114 = .ok (.iload_n 3, 1) := by decide +kernel
theorem dX10_withWhom_115 : decode cX10_withWhom 115 = .ok (.if_icmp .lt 26, 3) := by decide +kernel
theorem dX10_withWhom_118 : decode cX10_withWhom 118 = .ok (.iload 8, 2) := by decide +kernel
theorem dX10_withWhom_120 : decode cX10_withWhom 120 = .ok (.iload_n 3, 1) := by decide +kernel
theorem dX10_withWhom_121 : decode cX10_withWhom 121 = .ok (.if_icmp .ne 33, 3) := by decide +kernel
theorem dX10_withWhom_124 : decode cX10_withWhom 124 = .ok (.iload 8, 2) := by decide +kernel
theorem dX10_withWhom_126 : decode cX10_withWhom 126 = .ok (.ldc 229, 2) := by decide +kernel
theorem dX10_withWhom_128 : decode cX10_withWhom 128 = .ok (.if_icmp .ge 26, 3) := by decide +kernel
theorem dX10_withWhom_131 : decode cX10_withWhom 131 = .ok (.iload 6, 2) := by decide +kernel
theorem dX10_withWhom_133 : decode cX10_withWhom 133 = .ok (.iload 7, 2) := by decide +kernel
theorem dX10_withWhom_135 : decode cX10_withWhom 135 = .ok (.iadd, 1) := by decide +kernel
theorem dX10_withWhom_136 : decode cX10_withWhom 136 = .ok (.iload 4, 2) := by decide +kernel
theorem dX10_withWhom_138 : decode cX10_withWhom 138 = .ok (.if_icmp .ge 16, 3) := by decide +kernel
theorem dX10_withWhom_141 : decode cX10_withWhom 141 = .ok (.iload 5, 2) := by decide +kernel
theorem dX10_withWhom_143 : decode cX10_withWhom 143 = .ok (.istore_n 2, 1) := by decide +kernel
theorem dX10_withWhom_144 : decode cX10_withWhom 144 = .ok (.iload 8, 2) := by decide +kernel
theorem dX10_withWhom_146 : decode cX10_withWhom 146 = .ok (.istore_n 3, 1) := by decide +kernel
theorem dX10_withWhom_147 : decode cX10_withWhom 147 = .ok (.iload 6, 2) := by decide +kernel
theorem dX10_withWhom_149 : decode cX10_withWhom 149 = .ok (.iload 7, 2) := by decide +kernel
theorem dX10_withWhom_151 : decode cX10_withWhom 151 = .ok (.iadd, 1) := by decide +kernel
theorem dX10_withWhom_152 : decode cX10_withWhom 152 = .ok (.istore 4, 2) := by decide +kernel
theorem dX10_withWhom_154 : decode cX10_withWhom 154 = .ok (.iinc 5 1, 3) := by decide +kernel
theorem dX10_withWhom_157 : decode cX10_withWhom 157 = .ok (.goto (-122), 3) := by decide +kernel
theorem dX10_withWhom_160 : decode cX10_withWhom 160 = .ok (.iload_n 2, 1) := by decide +kernel
theorem dX10_withWhom_161 : decode cX10_withWhom 161 = .ok (.ifCond .lt 8, 3) := by decide +kernel
theorem dX10_withWhom_164 : decode cX10_withWhom 164 = .ok (.iload_n 1, 1) := by decide +kernel
theorem dX10_withWhom_165 : decode cX10_withWhom 165 = .ok (.iconst 1, 1) := by decide +kernel
theorem dX10_withWhom_166 : decode cX10_withWhom 166 = .ok (.if_icmp .ne 7, 3) := by decide +kernel
theorem dX10_withWhom_169 : decode cX10_withWhom 169 = .ok (.iload_n 2, 1) := by decide +kernel
theorem dX10_withWhom_170 : decode cX10_withWhom 170 = .ok (.goto 4, 3) := by decide +kernel
theorem dX10_withWhom_173 : decode cX10_withWhom 173 = .ok (.iload_n 3, 1) := by decide +kernel
theorem dX10_withWhom_174 : decode cX10_withWhom 174 = .ok (.ireturn, 1) := by decide +kernel
theorem dX10_lay_0 : decode cX10_lay 0 = .ok (.iload_n 2, 1) := by decide +kernel
theorem dX10_lay_1 : decode cX10_lay 1 = .ok (.aload_n 0, 1) := by decide +kernel
theorem dX10_lay_2 : decode cX10_lay 2 = .ok (.getfield 45, 3) := by decide +kernel
theorem dX10_lay_5 : decode cX10_lay 5 = .ok (.iload_n 1, 1) := by decide +kernel
theorem dX10_lay_6 : decode cX10_lay 6 = .ok (.iaload, 1) := by decide +kernel
theorem dX10_lay_7 : decode cX10_lay 7 = .ok (.if_icmp .lt 23, 3) := by decide +kernel
theorem dX10_lay_10 : decode cX10_lay 10 = .ok (.iload_n 2, 1) := by decide +kernel
theorem dX10_lay_11 : decode cX10_lay 11 = .ok (.aload_n 0, 1) := by decide +kernel
theorem dX10_lay_12 : decode cX10_lay 12 = .ok (.getfield 45, 3) := by decide +kernel
theorem dX10_lay_15 : decode cX10_lay 15 = .ok (.iload_n 1, 1) := by decide +kernel
theorem dX10_lay_16 : decode cX10_lay 16 = .ok (.iaload, 1) := by decide +kernel
theorem dX10_lay_17 : decode cX10_lay 17 = .ok (.if_icmp .ne 17, 3) := by decide +kernel
theorem dX10_lay_20 : decode cX10_lay 20 = .ok (.iload_n 3, 1) := by decide +kernel
theorem dX10_lay_21 : decode cX10_lay 21 = .ok (.aload_n 0, 1) := by decide +kernel
theorem dX10_lay_22 : decode cX10_lay 22 = .ok (.getfield 51, 3) := by decide +kernel
theorem dX10_lay_25 : decode cX10_lay 25 = .ok (.iload_n 1, 1) := by decide +kernel
theorem dX10_lay_26 : decode cX10_lay 26 = .ok (.iaload, 1) := by decide +kernel
theorem dX10_lay_27 : decode cX10_lay 27 = .ok (.if_icmp .le 7, 3) := by decide +kernel
theorem dX10_lay_30 : decode cX10_lay 30 = .ok (.iconst 1, 1) := by decide +kernel
theorem dX10_lay_31 : decode cX10_lay 31 = .ok (.goto 4, 3) := by decide +kernel
theorem dX10_lay_34 : decode cX10_lay 34 = .ok (.iconst 0, 1) := by decide +kernel
theorem dX10_lay_35 : decode cX10_lay 35 = .ok (.istore 4, 2) := by decide +kernel
theorem dX10_lay_37 : decode cX10_lay 37 = .ok (.iload 4, 2) := by decide +kernel
theorem dX10_lay_39 : decode cX10_lay 39 = .ok (.ifCond .eq 17, 3) := by decide +kernel
theorem dX10_lay_42 : decode cX10_lay 42 = .ok (.aload_n 0, 1) := by decide +kernel
theorem dX10_lay_43 : decode cX10_lay 43 = .ok (.getfield 45, 3) := by decide +kernel
theorem dX10_lay_46 : decode cX10_lay 46 = .ok (.iload_n 1, 1) := by decide +kernel
theorem dX10_lay_47 : decode cX10_lay 47 = .ok (.iload_n 2, 1) := by decide +kernel
theorem dX10_lay_48 : decode cX10_lay 48 = .ok (.iastore, 1) := by decide +kernel
theorem dX10_lay_49 : decode cX10_lay 49 = .ok (.aload_n 0, 1) := by decide +kernel
theorem dX10_lay_50 : decode cX10_lay 50 = .ok (.getfield 51, 3) := by decide +kernel
theorem dX10_lay_53 : decode cX10_lay 53 = .ok (.iload_n 1, 1) := by decide +kernel
theorem dX10_lay_54 : decode cX10_lay 54 = .ok (.iload_n 3, 1) := by decide +kernel
theorem dX10_lay_55 : decode cX10_lay 55 = .ok (.iastore, 1) := by decide +kernel
theorem dX10_lay_56 : decode cX10_lay 56 = .ok (.return_, 1) := by decide +kernel
theorem dX10_changes_0 : decode cX10_changes 0 = .ok (.iload_n 1, 1) := by decide +kernel
theorem dX10_changes_1 : decode cX10_changes 1 = .ok (.i2l, 1) := by decide +kernel
theorem dX10_changes_2 : decode cX10_changes 2 = .ok (.lconst 1, 1) := by decide +kernel
theorem dX10_changes_3 : decode cX10_changes 3 = .ok (.ldc2_w 227, 3) := by decide +kernel
theorem dX10_changes_6 : decode cX10_changes 6 = .ok (.invokestatic 68, 3) := by decide +kernel
theorem dX10_changes_9 : decode cX10_changes 9 = .ok (.ifCond .eq 25, 3) := by decide +kernel
theorem dX10_changes_12 : decode cX10_changes 12 = .ok (.iload_n 2, 1) := by decide +kernel
theorem dX10_changes_13 : decode cX10_changes 13 = .ok (.i2l, 1) := by decide +kernel
theorem dX10_changes_14 : decode cX10_changes 14 = .ok (.lconst 0, 1) := by decide +kernel
theorem dX10_changes_15 : decode cX10_changes 15 = .ok (.ldc2_w 250, 3) := by decide +kernel
theorem dX10_changes_18 : decode cX10_changes 18 = .ok (.invokestatic 68, 3) := by decide +kernel
theorem dX10_changes_21 : decode cX10_changes 21 = .ok (.ifCond .eq 13, 3) := by decide +kernel
theorem dX10_changes_24 : decode cX10_changes 24 = .ok (.iload_n 3, 1) := by decide +kernel
theorem dX10_changes_25 : decode cX10_changes 25 = .ok (.i2l, 1) := by decide +kernel
theorem dX10_changes_26 : decode cX10_changes 26 = .ok (.lconst 0, 1) := by decide +kernel
theorem dX10_changes_27 : decode cX10_changes 27 = .ok (.lconst 1, 1) := by decide +kernel
theorem dX10_changes_28 : decode cX10_changes 28 = .ok (.invokestatic 68, 3) := by decide +kernel
theorem dX10_changes_31 : decode cX10_changes 31 = .ok (.ifCond .ne 6, 3) := by decide +kernel
theorem dX10_changes_34 : decode cX10_changes 34 = .ok (.ldc 72, 2) := by decide +kernel
theorem dX10_changes_36 : decode cX10_changes 36 = .ok (.ireturn, 1) := by decide +kernel
theorem dX10_changes_37 : decode cX10_changes 37 = .ok (.aload_n 0, 1) := by decide +kernel
theorem dX10_changes_38 : decode cX10_changes 38 = .ok (.invokevirtual 197, 3) := by decide +kernel
theorem dX10_changes_41 : decode cX10_changes 41 = .ok (.ifCond .ne 6, 3) := by decide +kernel
theorem dX10_changes_44 : decode cX10_changes 44 = .ok (.ldc 194, 2) := by decide +kernel
theorem dX10_changes_46 : decode cX10_changes 46 = .ok (.ireturn, 1) := by decide +kernel
theorem dX10_changes_47 : decode cX10_changes 47 = .ok (.aload_n 0, 1) := by decide +kernel
theorem dX10_changes_48 : decode cX10_changes 48 = .ok (.getfield 23, 3) := by decide +kernel
theorem dX10_changes_51 : decode cX10_changes 51 = .ok (.aload_n 0, 1) := by decide +kernel
theorem dX10_changes_52 : decode cX10_changes 52 = .ok (.getfield 7, 3) := by decide +kernel
theorem dX10_changes_55 : decode cX10_changes 55 = .ok (.bipush 16, 2) := by decide +kernel
theorem dX10_changes_57 : decode cX10_changes 57 = .ok (.iaload, 1) := by decide +kernel
theorem dX10_changes_58 : decode cX10_changes 58 = .ok (.iaload, 1) := by decide +kernel
theorem dX10_changes_59 : decode cX10_changes 59 = .ok (.aload_n 0, 1) := by decide +kernel
theorem dX10_changes_60 : decode cX10_changes 60 = .ok (.getfield 23, 3) := by decide +kernel
theorem dX10_changes_63 : decode cX10_changes 63 = .ok (.aload_n 0, 1) := by decide +kernel
theorem dX10_changes_64 : decode cX10_changes 64 = .ok (.getfield 7, 3) := by decide +kernel
theorem dX10_changes_67 : decode cX10_changes 67 = .ok (.bipush 17, 2) := by decide +kernel
theorem dX10_changes_69 : decode cX10_changes 69 = .ok (.iaload, 1) := by decide +kernel
theorem dX10_changes_70 : decode cX10_changes 70 = .ok (.iaload, 1) := by decide +kernel
theorem dX10_changes_71 : decode cX10_changes 71 = .ok (.isub, 1) := by decide +kernel
theorem dX10_changes_72 : decode cX10_changes 72 = .ok (.istore 4, 2) := by decide +kernel
theorem dX10_changes_74 : decode cX10_changes 74 = .ok (.iconst 0, 1) := by decide +kernel
theorem dX10_changes_75 : decode cX10_changes 75 = .ok (.istore 5, 2) := by decide +kernel
theorem dX10_changes_77 : decode cX10_changes 77 = .ok (.iload 5, 2) := by decide +kernel
theorem dX10_changes_79 : decode cX10_changes 79 = .ok (.sipush 1204, 3) := by decide +kernel
theorem dX10_changes_82 : decode cX10_changes 82 = .ok (.if_icmp .ge 18, 3) := by decide +kernel
theorem dX10_changes_85 : decode cX10_changes 85 = .ok (.aload_n 0, 1) := by decide +kernel
theorem dX10_changes_86 : decode cX10_changes 86 = .ok (.getfield 42, 3) := by decide +kernel
theorem dX10_changes_89 : decode cX10_changes 89 = .ok (.iload 5, 2) := by decide +kernel
theorem dX10_changes_91 : decode cX10_changes 91 = .ok (.ldc 229, 2) := by decide +kernel
theorem dX10_changes_93 : decode cX10_changes 93 = .ok (.iastore, 1) := by decide +kernel
theorem dX10_changes_94 : decode cX10_changes 94 = .ok (.iinc 5 1, 3) := by decide +kernel
theorem dX10_changes_97 : decode cX10_changes 97 = .ok (.goto (-20), 3) := by decide +kernel
theorem dX10_changes_100 : decode cX10_changes 100 = .ok (.aload_n 0, 1) := by decide +kernel
theorem dX10_changes_101 : decode cX10_changes 101 = .ok (.getfield 42, 3) := by decide +kernel
theorem dX10_changes_104 : decode cX10_changes 104 = .ok (.sipush 602, 3) := by decide +kernel
theorem dX10_changes_107 : decode cX10_changes 107 = .ok (.iconst 0, 1) := by decide +kernel
theorem dX10_changes_108 : decode cX10_changes 108 = .ok (.iastore, 1) := by decide +kernel
theorem dX10_changes_109 : decode cX10_changes 109 = .ok (.aload_n 0, 1) := by decide +kernel
theorem dX10_changes_110 : decode cX10_changes 110 = .ok (.getfield 48, 3) := by decide +kernel
theorem dX10_changes_113 : decode cX10_changes 113 = .ok (.sipush 602, 3) := by decide +kernel
theorem dX10_changes_116 : decode cX10_changes 116 = .ok (.bipush 99, 2) := by decide +kernel
theorem dX10_changes_118 : decode cX10_changes 118 = .ok (.iastore, 1) := by decide +kernel
theorem dX10_changes_119 : decode cX10_changes 119 = .ok (.iconst 0, 1) := by decide +kernel
theorem dX10_changes_120 : decode cX10_changes 120 = .ok (.istore 5, 2) := by decide +kernel
theorem dX10_changes_122 : decode cX10_changes 122 = .ok (.iload 5, 2) := by decide +kernel
theorem dX10_changes_124 : decode cX10_changes 124 = .ok (.iload_n 1, 1) := by decide +kernel
theorem dX10_changes_125 : decode cX10_changes 125 = .ok (.if_icmp .ge 240, 3) := by decide +kernel
theorem dX10_changes_128 : decode cX10_changes 128 = .ok (.iconst 0, 1) := by decide +kernel
theorem dX10_changes_129 : decode cX10_changes 129 = .ok (.istore 6, 2) := by decide +kernel
theorem dX10_changes_131 : decode cX10_changes 131 = .ok (.iload 6, 2) := by decide +kernel
theorem dX10_changes_133 : decode cX10_changes 133 = .ok (.sipush 1204, 3) := by decide +kernel
theorem dX10_changes_136 : decode cX10_changes 136 = .ok (.if_icmp .ge 26, 3) := by decide +kernel
theorem dX10_changes_139 : decode cX10_changes 139 = .ok (.aload_n 0, 1) := by decide +kernel
theorem dX10_changes_140 : decode cX10_changes 140 = .ok (.getfield 45, 3) := by decide +kernel
theorem dX10_changes_143 : decode cX10_changes 143 = .ok (.iload 6, 2) := by decide +kernel
theorem dX10_changes_145 : decode cX10_changes 145 = .ok (.ldc 229, 2) := by decide +kernel
theorem dX10_changes_147 : decode cX10_changes 147 = .ok (.iastore, 1) := by decide +kernel
theorem dX10_changes_148 : decode cX10_changes 148 = .ok (.aload_n 0, 1) := by decide +kernel
theorem dX10_changes_149 : decode cX10_changes 149 = .ok (.getfield 51, 3) := by decide +kernel
theorem dX10_changes_152 : decode cX10_changes 152 = .ok (.iload 6, 2) := by decide +kernel
theorem dX10_changes_154 : decode cX10_changes 154 = .ok (.iconst (-1), 1) := by decide +kernel
theorem dX10_changes_155 : decode cX10_changes 155 = .ok (.iastore, 1) := by decide +kernel
theorem dX10_changes_156 : decode cX10_changes 156 = .ok (.iinc 6 1, 3) := by decide +kernel
theorem dX10_changes_159 : decode cX10_changes 159 = .ok (.goto (-28), 3) := by decide +kernel
theorem dX10_changes_162 : decode cX10_changes 162 = .ok (.iconst 0, 1) := by decide +kernel
theorem dX10_changes_163 : decode cX10_changes 163 = .ok (.istore 6, 2) := by decide +kernel
theorem dX10_changes_165 : decode cX10_changes 165 = .ok (.iload 6, 2) := by decide +kernel
theorem dX10_changes_167 : decode cX10_changes 167 = .ok (.sipush 1204, 3) := by decide +kernel
theorem dX10_changes_170 : decode cX10_changes 170 = .ok (.if_icmp .ge 144, 3) := by decide +kernel
theorem dX10_changes_173 : decode cX10_changes 173 = .ok (.iconst 0, 1) := by decide +kernel
theorem dX10_changes_174 : decode cX10_changes 174 = .ok (.istore 7, 2) := by decide +kernel
theorem dX10_changes_176 : decode cX10_changes 176 = .ok (.iload 7, 2) := by decide +kernel
theorem dX10_changes_178 : decode cX10_changes 178 = .ok (.iconst 2, 1) := by decide +kernel
theorem dX10_changes_179 : decode cX10_changes 179 = .ok (.if_icmp .ge 129, 3) := by decide +kernel
theorem dX10_changes_182 : decode cX10_changes 182 = .ok (.aload_n 0, 1) := by decide +kernel
theorem dX10_changes_183 : decode cX10_changes 183 = .ok (.getfield 42, 3) := by decide +kernel
theorem dX10_changes_186 : decode cX10_changes 186 = .ok (.iload 6, 2) := by decide +kernel
theorem dX10_changes_188 : decode cX10_changes 188 = .ok (.iaload, 1) := by decide +kernel
theorem dX10_changes_189 : decode cX10_changes 189 = .ok (.ldc 229, 2) := by decide +kernel
theorem dX10_changes_191 : decode cX10_changes 191 = .ok (.if_icmp .ge 117, 3) := by decide +kernel
theorem dX10_changes_194 : decode cX10_changes 194 = .ok (.iload 6, 2) := by decide +kernel
theorem dX10_changes_196 : decode cX10_changes 196 = .ok (.iload 7, 2) := by decide +kernel
theorem dX10_changes_198 : decode cX10_changes 198 = .ok (.iadd, 1) := by decide +kernel
theorem dX10_changes_199 : decode cX10_changes 199 = .ok (.iconst 2, 1) := by decide +kernel
theorem dX10_changes_200 : decode cX10_changes 200 = .ok (.irem, 1) := by decide +kernel
theorem dX10_changes_201 : decode cX10_changes 201 = .ok (.istore 8, 2) := by decide +kernel
theorem dX10_changes_203 : decode cX10_changes 203 = .ok (.iload 6, 2) := by decide +kernel
theorem dX10_changes_205 : decode cX10_changes 205 = .ok (.iconst 2, 1) := by decide +kernel
theorem dX10_changes_206 : decode cX10_changes 206 = .ok (.idiv, 1) := by decide +kernel
theorem dX10_changes_207 : decode cX10_changes 207 = .ok (.sipush 301, 3) := by decide +kernel
theorem dX10_changes_210 : decode cX10_changes 210 = .ok (.isub, 1) := by decide +kernel
theorem dX10_changes_211 : decode cX10_changes 211 = .ok (.iload 8, 2) := by decide +kernel
theorem dX10_changes_213 : decode cX10_changes 213 = .ok (.ifCond .ne 8, 3) := by decide +kernel
theorem dX10_changes_216 : decode cX10_changes 216 = .ok (.iload 4, 2) := by decide +kernel
theorem dX10_changes_218 : decode cX10_changes 218 = .ok (.goto 6, 3) := by decide +kernel
theorem dX10_changes_221 : decode cX10_changes 221 = .ok (.iload 4, 2) := by decide +kernel
theorem dX10_changes_223 : decode cX10_changes 223 = .ok (.ineg, 1) := by decide +kernel
theorem dX10_changes_224 : decode cX10_changes 224 = .ok (.iadd, 1) := by decide +kernel
theorem dX10_changes_225 : decode cX10_changes 225 = .ok (.istore 9, 2) := by decide +kernel
theorem dX10_changes_227 : decode cX10_changes 227 = .ok (.aload_n 0, 1) := by decide +kernel
theorem dX10_changes_228 : decode cX10_changes 228 = .ok (.getfield 7, 3) := by decide +kernel
theorem dX10_changes_231 : decode cX10_changes 231 = .ok (.bipush 21, 2) := by decide +kernel
theorem dX10_changes_233 : decode cX10_changes 233 = .ok (.iaload, 1) := by decide +kernel
theorem dX10_changes_234 : decode cX10_changes 234 = .ok (.iload 9, 2) := by decide +kernel
theorem dX10_changes_236 : decode cX10_changes 236 = .ok (.iadd, 1) := by decide +kernel
theorem dX10_changes_237 : decode cX10_changes 237 = .ok (.i2l, 1) := by decide +kernel
theorem dX10_changes_238 : decode cX10_changes 238 = .ok (.iload_n 2, 1) := by decide +kernel
theorem dX10_changes_239 : decode cX10_changes 239 = .ok (.ineg, 1) := by decide +kernel
theorem dX10_changes_240 : decode cX10_changes 240 = .ok (.i2l, 1) := by decide +kernel
theorem dX10_changes_241 : decode cX10_changes 241 = .ok (.iload_n 2, 1) := by decide +kernel
theorem dX10_changes_242 : decode cX10_changes 242 = .ok (.i2l, 1) := by decide +kernel
theorem dX10_changes_243 : decode cX10_changes 243 = .ok (.invokestatic 68, 3) := by decide +kernel
theorem dX10_changes_246 : decode cX10_changes 246 = .ok (.ifCond .eq 56, 3) := by decide +kernel
theorem dX10_changes_249 : decode cX10_changes 249 = .ok (.aload_n 0, 1) := by decide +kernel
theorem dX10_changes_250 : decode cX10_changes 250 = .ok (.iconst 2, 1) := by decide +kernel
theorem dX10_changes_251 : decode cX10_changes 251 = .ok (.iload 9, 2) := by decide +kernel
theorem dX10_changes_253 : decode cX10_changes 253 = .ok (.sipush 301, 3) := by decide +kernel
theorem dX10_changes_256 : decode cX10_changes 256 = .ok (.iadd, 1) := by decide +kernel
theorem dX10_changes_257 : decode cX10_changes 257 = .ok (.imul, 1) := by decide +kernel
theorem dX10_changes_258 : decode cX10_changes 258 = .ok (.iload 8, 2) := by decide +kernel
theorem dX10_changes_260 : decode cX10_changes 260 = .ok (.iadd, 1) := by decide +kernel
theorem dX10_changes_261 : decode cX10_changes 261 = .ok (.aload_n 0, 1) := by decide +kernel
theorem dX10_changes_262 : decode cX10_changes 262 = .ok (.getfield 42, 3) := by decide +kernel
theorem dX10_changes_265 : decode cX10_changes 265 = .ok (.iload 6, 2) := by decide +kernel
theorem dX10_changes_267 : decode cX10_changes 267 = .ok (.iaload, 1) := by decide +kernel
theorem dX10_changes_268 : decode cX10_changes 268 = .ok (.iload 7, 2) := by decide +kernel
theorem dX10_changes_270 : decode cX10_changes 270 = .ok (.iadd, 1) := by decide +kernel
theorem dX10_changes_271 : decode cX10_changes 271 = .ok (.iload 7, 2) := by decide +kernel
theorem dX10_changes_273 : decode cX10_changes 273 = .ok (.iconst 1, 1) := by decide +kernel
theorem dX10_changes_274 : decode cX10_changes 274 = .ok (.if_icmp .ne 18, 3) := by decide +kernel
theorem dX10_changes_277 : decode cX10_changes 277 = .ok (.aload_n 0, 1) := by decide +kernel
theorem dX10_changes_278 : decode cX10_changes 278 = .ok (.getfield 42, 3) := by decide +kernel
theorem dX10_changes_281 : decode cX10_changes 281 = .ok (.iload 6, 2) := by decide +kernel
theorem dX10_changes_283 : decode cX10_changes 283 = .ok (.iaload, 1) := by decide +kernel
theorem dX10_changes_284 : decode cX10_changes 284 = .ok (.ifCond .ne 8, 3) := by decide +kernel
theorem dX10_changes_287 : decode cX10_changes 287 = .ok (.iload 5, 2) := by decide +kernel
theorem dX10_changes_289 : decode cX10_changes 289 = .ok (.goto 10, 3) := by decide +kernel
theorem dX10_changes_292 : decode cX10_changes 292 = .ok (.aload_n 0, 1) := by decide +kernel
theorem dX10_changes_293 : decode cX10_changes 293 = .ok (.getfield 48, 3) := by decide +kernel
theorem dX10_changes_296 : decode cX10_changes 296 = .ok (.iload 6, 2) := by decide +kernel
theorem dX10_changes_298 : decode cX10_changes 298 = .ok (.iaload, 1) := by decide +kernel
theorem dX10_changes_299 : decode cX10_changes 299 = .ok (.invokevirtual 252, 3) := by decide +kernel
theorem dX10_changes_302 : decode cX10_changes 302 = .ok (.iinc 7 1, 3) := by decide +kernel
theorem dX10_changes_305 : decode cX10_changes 305 = .ok (.goto (-129), 3) := by decide +kernel
theorem dX10_changes_308 : decode cX10_changes 308 = .ok (.iinc 6 1, 3) := by decide +kernel
theorem dX10_changes_311 : decode cX10_changes 311 = .ok (.goto (-146), 3) := by decide +kernel
theorem dX10_changes_314 : decode cX10_changes 314 = .ok (.iconst 0, 1) := by decide +kernel
theorem dX10_changes_315 : decode cX10_changes 315 = .ok (.istore 6, 2) := by decide +kernel
theorem dX10_changes_317 : decode cX10_changes 317 = .ok (.iload 6, 2) := by decide +kernel
theorem dX10_changes_319 : decode cX10_changes 319 = .ok (.sipush 1204, 3) := by decide +kernel
theorem dX10_changes_322 : decode cX10_changes 322 = .ok (.if_icmp .ge 37, 3) := by decide +kernel
theorem dX10_changes_325 : decode cX10_changes 325 = .ok (.aload_n 0, 1) := by decide +kernel
theorem dX10_changes_326 : decode cX10_changes 326 = .ok (.getfield 42, 3) := by decide +kernel
theorem dX10_changes_329 : decode cX10_changes 329 = .ok (.iload 6, 2) := by decide +kernel
theorem dX10_changes_331 : decode cX10_changes 331 = .ok (.aload_n 0, 1) := by decide +kernel
theorem dX10_changes_332 : decode cX10_changes 332 = .ok (.getfield 45, 3) := by decide +kernel
theorem dX10_changes_335 : decode cX10_changes 335 = .ok (.iload 6, 2) := by decide +kernel
theorem dX10_changes_337 : decode cX10_changes 337 = .ok (.iaload, 1) := by decide +kernel
theorem dX10_changes_338 : decode cX10_changes 338 = .ok (.iastore, 1) := by decide +kernel
theorem dX10_changes_339 : decode cX10_changes 339 = .ok (.aload_n 0, 1) := by decide +kernel
theorem dX10_changes_340 : decode cX10_changes 340 = .ok (.getfield 48, 3) := by decide +kernel
theorem dX10_changes_343 : decode cX10_changes 343 = .ok (.iload 6, 2) := by decide +kernel
theorem dX10_changes_345 : decode cX10_changes 345 = .ok (.aload_n 0, 1) := by decide +kernel
theorem dX10_changes_346 : decode cX10_changes 346 = .ok (.getfield 51, 3) := by decide +kernel
theorem dX10_changes_349 : decode cX10_changes 349 = .ok (.iload 6, 2) := by decide +kernel
theorem dX10_changes_351 : decode cX10_changes 351 = .ok (.iaload, 1) := by decide +kernel
theorem dX10_changes_352 : decode cX10_changes 352 = .ok (.iastore, 1) := by decide +kernel
theorem dX10_changes_353 : decode cX10_changes 353 = .ok (.iinc 6 1, 3) := by decide +kernel
theorem dX10_changes_356 : decode cX10_changes 356 = .ok (.goto (-39), 3) := by decide +kernel
theorem dX10_changes_359 : decode cX10_changes 359 = .ok (.iinc 5 1, 3) := by decide +kernel
theorem dX10_changes_362 : decode cX10_changes 362 = .ok (.goto (-240), 3) := by decide +kernel
theorem dX10_changes_365 : decode cX10_changes 365 = .ok (.ldc 229, 2) := by decide +kernel
theorem dX10_changes_367 : decode cX10_changes 367 = .ok (.istore 5, 2) := by decide +kernel
theorem dX10_changes_369 : decode cX10_changes 369 = .ok (.iconst (-1), 1) := by decide +kernel
theorem dX10_changes_370 : decode cX10_changes 370 = .ok (.istore 6, 2) := by decide +kernel
theorem dX10_changes_372 : decode cX10_changes 372 = .ok (.iconst 0, 1) := by decide +kernel
theorem dX10_changes_373 : decode cX10_changes 373 = .ok (.istore 7, 2) := by decide +kernel
theorem dX10_changes_375 : decode cX10_changes 375 = .ok (.iload 7, 2) := by decide +kernel
theorem dX10_changes_377 : decode cX10_changes 377 = .ok (.sipush 1204, 3) := by decide +kernel
theorem dX10_changes_380 : decode cX10_changes 380 = .ok (.if_icmp .ge 63, 3) := by decide +kernel
theorem dX10_changes_383 : decode cX10_changes 383 = .ok (.aload_n 0, 1) := by decide +kernel
theorem dX10_changes_384 : decode cX10_changes 384 = .ok (.getfield 42, 3) := by decide +kernel
theorem dX10_changes_387 : decode cX10_changes 387 = .ok (.iload 7, 2) := by decide +kernel
theorem dX10_changes_389 : decode cX10_changes 389 = .ok (.iaload, 1) := by decide +kernel
theorem dX10_changes_390 : decode cX10_changes 390 = .ok (.iload 5, 2) := by decide +kernel
theorem dX10_changes_392 : decode cX10_changes 392 = .ok (.if_icmp .lt 27, 3) := by decide +kernel
theorem dX10_changes_395 : decode cX10_changes 395 = .ok (.aload_n 0, 1) := by decide +kernel
theorem dX10_changes_396 : decode cX10_changes 396 = .ok (.getfield 42, 3) := by decide +kernel
theorem dX10_changes_399 : decode cX10_changes 399 = .ok (.iload 7, 2) := by decide +kernel
theorem dX10_changes_401 : decode cX10_changes 401 = .ok (.iaload, 1) := by decide +kernel
theorem dX10_changes_402 : decode cX10_changes 402 = .ok (.iload 5, 2) := by decide +kernel
theorem dX10_changes_404 : decode cX10_changes 404 = .ok (.if_icmp .ne 33, 3) := by decide +kernel
theorem dX10_changes_407 : decode cX10_changes 407 = .ok (.aload_n 0, 1) := by decide +kernel
theorem dX10_changes_408 : decode cX10_changes 408 = .ok (.getfield 48, 3) := by decide +kernel
theorem dX10_changes_411 : decode cX10_changes 411 = .ok (.iload 7, 2) := by decide +kernel
theorem dX10_changes_413 : decode cX10_changes 413 = .ok (.iaload, 1) := by decide +kernel
theorem dX10_changes_414 : decode cX10_changes 414 = .ok (.iload 6, 2) := by decide +kernel
theorem dX10_changes_416 : decode cX10_changes 416 = .ok (.if_icmp .le 21, 3) := by decide +kernel
theorem dX10_changes_419 : decode cX10_changes 419 = .ok (.aload_n 0, 1) := by decide +kernel
theorem dX10_changes_420 : decode cX10_changes 420 = .ok (.getfield 42, 3) := by decide +kernel
theorem dX10_changes_423 : decode cX10_changes 423 = .ok (.iload 7, 2) := by decide +kernel
theorem dX10_changes_425 : decode cX10_changes 425 = .ok (.iaload, 1) := by decide +kernel
theorem dX10_changes_426 : decode cX10_changes 426 = .ok (.istore 5, 2) := by decide +kernel
theorem dX10_changes_428 : decode cX10_changes 428 = .ok (.aload_n 0, 1) := by decide +kernel
theorem dX10_changes_429 : decode cX10_changes 429 = .ok (.getfield 48, 3) := by decide +kernel
theorem dX10_changes_432 : decode cX10_changes 432 = .ok (.iload 7, 2) := by decide +kernel
theorem dX10_changes_434 : decode cX10_changes 434 = .ok (.iaload, 1) := by decide +kernel
theorem dX10_changes_435 : decode cX10_changes 435 = .ok (.istore 6, 2) := by decide +kernel
theorem dX10_changes_437 : decode cX10_changes 437 = .ok (.iinc 7 1, 3) := by decide +kernel
theorem dX10_changes_440 : decode cX10_changes 440 = .ok (.goto (-65), 3) := by decide +kernel
theorem dX10_changes_443 : decode cX10_changes 443 = .ok (.iload 5, 2) := by decide +kernel
theorem dX10_changes_445 : decode cX10_changes 445 = .ok (.ldc 229, 2) := by decide +kernel
theorem dX10_changes_447 : decode cX10_changes 447 = .ok (.if_icmp .ne 7, 3) := by decide +kernel
theorem dX10_changes_450 : decode cX10_changes 450 = .ok (.iconst (-1), 1) := by decide +kernel
theorem dX10_changes_451 : decode cX10_changes 451 = .ok (.goto 23, 3) := by decide +kernel
theorem dX10_changes_454 : decode cX10_changes 454 = .ok (.iload_n 3, 1) := by decide +kernel
theorem dX10_changes_455 : decode cX10_changes 455 = .ok (.ifCond .ne 8, 3) := by decide +kernel
theorem dX10_changes_458 : decode cX10_changes 458 = .ok (.iload 5, 2) := by decide +kernel
theorem dX10_changes_460 : decode cX10_changes 460 = .ok (.goto 14, 3) := by decide +kernel
theorem dX10_changes_463 : decode cX10_changes 463 = .ok (.iload 5, 2) := by decide +kernel
theorem dX10_changes_465 : decode cX10_changes 465 = .ok (.ifCond .ne 7, 3) := by decide +kernel
theorem dX10_changes_468 : decode cX10_changes 468 = .ok (.iconst (-1), 1) := by decide +kernel
theorem dX10_changes_469 : decode cX10_changes 469 = .ok (.goto 5, 3) := by decide +kernel
theorem dX10_changes_472 : decode cX10_changes 472 = .ok (.iload 6, 2) := by decide +kernel
theorem dX10_changes_474 : decode cX10_changes 474 = .ok (.ireturn, 1) := by decide +kernel
theorem dX10_whenWedge_0 : decode cX10_whenWedge 0 = .ok (.iload_n 1, 1) := by decide +kernel
theorem dX10_whenWedge_1 : decode cX10_whenWedge 1 = .ok (.i2l, 1) := by decide +kernel
theorem dX10_whenWedge_2 : decode cX10_whenWedge 2 = .ok (.lconst 0, 1) := by decide +kernel
theorem dX10_whenWedge_3 : decode cX10_whenWedge 3 = .ok (.lconst 1, 1) := by decide +kernel
theorem dX10_whenWedge_4 : decode cX10_whenWedge 4 = .ok (.invokestatic 68, 3) := by decide +kernel
theorem dX10_whenWedge_7 : decode cX10_whenWedge 7 = .ok (.ifCond .ne 6, 3) := by decide +kernel
theorem dX10_whenWedge_10 : decode cX10_whenWedge 10 = .ok (.ldc 72, 2) := by decide +kernel
theorem dX10_whenWedge_12 : decode cX10_whenWedge 12 = .ok (.ireturn, 1) := by decide +kernel
theorem dX10_whenWedge_13 : decode cX10_whenWedge 13 = .ok (.aload_n 0, 1) := by decide +kernel
theorem dX10_whenWedge_14 : decode cX10_whenWedge 14 = .ok (.invokevirtual 197, 3) := by decide +kernel
theorem dX10_whenWedge_17 : decode cX10_whenWedge 17 = .ok (.ifCond .ne 6, 3) := by decide +kernel
theorem dX10_whenWedge_20 : decode cX10_whenWedge 20 = .ok (.ldc 194, 2) := by decide +kernel
theorem dX10_whenWedge_22 : decode cX10_whenWedge 22 = .ok (.ireturn, 1) := by decide +kernel
theorem dX10_whenWedge_23 : decode cX10_whenWedge 23 = .ok (.aload_n 0, 1) := by decide +kernel
theorem dX10_whenWedge_24 : decode cX10_whenWedge 24 = .ok (.invokevirtual 233, 3) := by decide +kernel
theorem dX10_whenWedge_27 : decode cX10_whenWedge 27 = .ok (.istore_n 2, 1) := by decide +kernel
theorem dX10_whenWedge_28 : decode cX10_whenWedge 28 = .ok (.iconst (-1), 1) := by decide +kernel
theorem dX10_whenWedge_29 : decode cX10_whenWedge 29 = .ok (.istore_n 3, 1) := by decide +kernel
theorem dX10_whenWedge_30 : decode cX10_whenWedge 30 = .ok (.iload_n 2, 1) := by decide +kernel
theorem dX10_whenWedge_31 : decode cX10_whenWedge 31 = .ok (.istore 4, 2) := by decide +kernel
theorem dX10_whenWedge_33 : decode cX10_whenWedge 33 = .ok (.iconst 0, 1) := by decide +kernel
theorem dX10_whenWedge_34 : decode cX10_whenWedge 34 = .ok (.istore 5, 2) := by decide +kernel
theorem dX10_whenWedge_36 : decode cX10_whenWedge 36 = .ok (.iload 5, 2) := by decide +kernel
theorem dX10_whenWedge_38 : decode cX10_whenWedge 38 = .ok (.bipush 100, 2) := by decide +kernel
theorem dX10_whenWedge_40 : decode cX10_whenWedge 40 = .ok (.if_icmp .ge 123, 3) := by decide +kernel
theorem dX10_whenWedge_43 : decode cX10_whenWedge 43 = .ok (.aload_n 0, 1) := by decide +kernel
theorem dX10_whenWedge_44 : decode cX10_whenWedge 44 = .ok (.getfield 7, 3) := by decide +kernel
theorem dX10_whenWedge_47 : decode cX10_whenWedge 47 = .ok (.bipush 23, 2) := by decide +kernel
theorem dX10_whenWedge_49 : decode cX10_whenWedge 49 = .ok (.iaload, 1) := by decide +kernel
theorem dX10_whenWedge_50 : decode cX10_whenWedge 50 = .ok (.ifCond .ne 113, 3) := by decide +kernel
theorem dX10_whenWedge_53 : decode cX10_whenWedge 53 = .ok (.aload_n 0, 1) := by decide +kernel
theorem dX10_whenWedge_54 : decode cX10_whenWedge 54 = .ok (.iconst 0, 1) := by decide +kernel
theorem dX10_whenWedge_55 : decode cX10_whenWedge 55 = .ok (.bipush 28, 2) := by decide +kernel
theorem dX10_whenWedge_57 : decode cX10_whenWedge 57 = .ok (.invokevirtual 191, 3) := by decide +kernel
theorem dX10_whenWedge_60 : decode cX10_whenWedge 60 = .ok (.iconst 0, 1) := by decide +kernel
theorem dX10_whenWedge_61 : decode cX10_whenWedge 61 = .ok (.istore 6, 2) := by decide +kernel
theorem dX10_whenWedge_63 : decode cX10_whenWedge 63 = .ok (.iload 6, 2) := by decide +kernel
theorem dX10_whenWedge_65 : decode cX10_whenWedge 65 = .ok (.iload 5, 2) := by decide +kernel
theorem dX10_whenWedge_67 : decode cX10_whenWedge 67 = .ok (.if_icmp .ge 26, 3) := by decide +kernel
theorem dX10_whenWedge_70 : decode cX10_whenWedge 70 = .ok (.aload_n 0, 1) := by decide +kernel
theorem dX10_whenWedge_71 : decode cX10_whenWedge 71 = .ok (.bipush 28, 2) := by decide +kernel
theorem dX10_whenWedge_73 : decode cX10_whenWedge 73 = .ok (.invokevirtual 166, 3) := by decide +kernel
theorem dX10_whenWedge_76 : decode cX10_whenWedge 76 = .ok (.ifCond .ne 17, 3) := by decide +kernel
theorem dX10_whenWedge_79 : decode cX10_whenWedge 79 = .ok (.aload_n 0, 1) := by decide +kernel
theorem dX10_whenWedge_80 : decode cX10_whenWedge 80 = .ok (.bipush 28, 2) := by decide +kernel
theorem dX10_whenWedge_82 : decode cX10_whenWedge 82 = .ok (.invokevirtual 204, 3) := by decide +kernel
theorem dX10_whenWedge_85 : decode cX10_whenWedge 85 = .ok (.istore 7, 2) := by decide +kernel
theorem dX10_whenWedge_87 : decode cX10_whenWedge 87 = .ok (.iinc 6 1, 3) := by decide +kernel
theorem dX10_whenWedge_90 : decode cX10_whenWedge 90 = .ok (.goto (-27), 3) := by decide +kernel
theorem dX10_whenWedge_93 : decode cX10_whenWedge 93 = .ok (.aload_n 0, 1) := by decide +kernel
theorem dX10_whenWedge_94 : decode cX10_whenWedge 94 = .ok (.bipush 28, 2) := by decide +kernel
theorem dX10_whenWedge_96 : decode cX10_whenWedge 96 = .ok (.invokevirtual 166, 3) := by decide +kernel
theorem dX10_whenWedge_99 : decode cX10_whenWedge 99 = .ok (.ifCond .ne 58, 3) := by decide +kernel
theorem dX10_whenWedge_102 : decode cX10_whenWedge 102 = .ok (.aload_n 0, 1) := by decide +kernel
theorem dX10_whenWedge_103 : decode cX10_whenWedge 103 = .ok (.getfield 7, 3) := by decide +kernel
theorem dX10_whenWedge_106 : decode cX10_whenWedge 106 = .ok (.bipush 51, 2) := by decide +kernel
theorem dX10_whenWedge_108 : decode cX10_whenWedge 108 = .ok (.iconst 1, 1) := by decide +kernel
theorem dX10_whenWedge_109 : decode cX10_whenWedge 109 = .ok (.iastore, 1) := by decide +kernel
theorem dX10_whenWedge_110 : decode cX10_whenWedge 110 = .ok (.aload_n 0, 1) := by decide +kernel
theorem dX10_whenWedge_111 : decode cX10_whenWedge 111 = .ok (.sipush 999, 3) := by decide +kernel
theorem dX10_whenWedge_114 : decode cX10_whenWedge 114 = .ok (.iload 5, 2) := by decide +kernel
theorem dX10_whenWedge_116 : decode cX10_whenWedge 116 = .ok (.isub, 1) := by decide +kernel
theorem dX10_whenWedge_117 : decode cX10_whenWedge 117 = .ok (.invokevirtual 230, 3) := by decide +kernel
theorem dX10_whenWedge_120 : decode cX10_whenWedge 120 = .ok (.istore 6, 2) := by decide +kernel
theorem dX10_whenWedge_122 : decode cX10_whenWedge 122 = .ok (.iload 6, 2) := by decide +kernel
theorem dX10_whenWedge_124 : decode cX10_whenWedge 124 = .ok (.ldc 229, 2) := by decide +kernel
theorem dX10_whenWedge_126 : decode cX10_whenWedge 126 = .ok (.if_icmp .ne 8, 3) := by decide +kernel
theorem dX10_whenWedge_129 : decode cX10_whenWedge 129 = .ok (.ldc 229, 2) := by decide +kernel
theorem dX10_whenWedge_131 : decode cX10_whenWedge 131 = .ok (.goto 10, 3) := by decide +kernel
theorem dX10_whenWedge_134 : decode cX10_whenWedge 134 = .ok (.iload 5, 2) := by decide +kernel
theorem dX10_whenWedge_136 : decode cX10_whenWedge 136 = .ok (.iconst 3, 1) := by decide +kernel
theorem dX10_whenWedge_137 : decode cX10_whenWedge 137 = .ok (.iadd, 1) := by decide +kernel
theorem dX10_whenWedge_138 : decode cX10_whenWedge 138 = .ok (.iload 6, 2) := by decide +kernel
theorem dX10_whenWedge_140 : decode cX10_whenWedge 140 = .ok (.iadd, 1) := by decide +kernel
theorem dX10_whenWedge_141 : decode cX10_whenWedge 141 = .ok (.istore 7, 2) := by decide +kernel
theorem dX10_whenWedge_143 : decode cX10_whenWedge 143 = .ok (.iload 7, 2) := by decide +kernel
theorem dX10_whenWedge_145 : decode cX10_whenWedge 145 = .ok (.iload 4, 2) := by decide +kernel
theorem dX10_whenWedge_147 : decode cX10_whenWedge 147 = .ok (.if_icmp .ge 10, 3) := by decide +kernel
theorem dX10_whenWedge_150 : decode cX10_whenWedge 150 = .ok (.iload 5, 2) := by decide +kernel
theorem dX10_whenWedge_152 : decode cX10_whenWedge 152 = .ok (.istore_n 3, 1) := by decide +kernel
theorem dX10_whenWedge_153 : decode cX10_whenWedge 153 = .ok (.iload 7, 2) := by decide +kernel
theorem dX10_whenWedge_155 : decode cX10_whenWedge 155 = .ok (.istore 4, 2) := by decide +kernel
theorem dX10_whenWedge_157 : decode cX10_whenWedge 157 = .ok (.iinc 5 1, 3) := by decide +kernel
theorem dX10_whenWedge_160 : decode cX10_whenWedge 160 = .ok (.goto (-124), 3) := by decide +kernel
theorem dX10_whenWedge_163 : decode cX10_whenWedge 163 = .ok (.iload_n 3, 1) := by decide +kernel
theorem dX10_whenWedge_164 : decode cX10_whenWedge 164 = .ok (.ifCond .lt 7, 3) := by decide +kernel
theorem dX10_whenWedge_167 : decode cX10_whenWedge 167 = .ok (.iload_n 1, 1) := by decide +kernel
theorem dX10_whenWedge_168 : decode cX10_whenWedge 168 = .ok (.ifCond .ne 7, 3) := by decide +kernel
theorem dX10_whenWedge_171 : decode cX10_whenWedge 171 = .ok (.iload_n 3, 1) := by decide +kernel
theorem dX10_whenWedge_172 : decode cX10_whenWedge 172 = .ok (.goto 5, 3) := by decide +kernel
theorem dX10_whenWedge_175 : decode cX10_whenWedge 175 = .ok (.iload 4, 2) := by decide +kernel
theorem dX10_whenWedge_177 : decode cX10_whenWedge 177 = .ok (.ireturn, 1) := by decide +kernel
theorem dX10_depthBy_0 : decode cX10_depthBy 0 = .ok (.aload_n 0, 1) := by decide +kernel
theorem dX10_depthBy_1 : decode cX10_depthBy 1 = .ok (.iconst 0, 1) := by decide +kernel
theorem dX10_depthBy_2 : decode cX10_depthBy 2 = .ok (.bipush 28, 2) := by decide +kernel
theorem dX10_depthBy_4 : decode cX10_depthBy 4 = .ok (.invokevirtual 191, 3) := by decide +kernel
theorem dX10_depthBy_7 : decode cX10_depthBy 7 = .ok (.iconst 0, 1) := by decide +kernel
theorem dX10_depthBy_8 : decode cX10_depthBy 8 = .ok (.istore_n 3, 1) := by decide +kernel
theorem dX10_depthBy_9 : decode cX10_depthBy 9 = .ok (.iload_n 3, 1) := by decide +kernel
theorem dX10_depthBy_10 : decode cX10_depthBy 10 = .ok (.iload_n 1, 1) := by decide +kernel
theorem dX10_depthBy_11 : decode cX10_depthBy 11 = .ok (.if_icmp .ge 44, 3) := by decide +kernel
theorem dX10_depthBy_14 : decode cX10_depthBy 14 = .ok (.aload_n 0, 1) := by decide +kernel
theorem dX10_depthBy_15 : decode cX10_depthBy 15 = .ok (.bipush 28, 2) := by decide +kernel
theorem dX10_depthBy_17 : decode cX10_depthBy 17 = .ok (.invokevirtual 166, 3) := by decide +kernel
theorem dX10_depthBy_20 : decode cX10_depthBy 20 = .ok (.ifCond .ne 35, 3) := by decide +kernel
theorem dX10_depthBy_23 : decode cX10_depthBy 23 = .ok (.iload_n 2, 1) := by decide +kernel
theorem dX10_depthBy_24 : decode cX10_depthBy 24 = .ok (.iload_n 3, 1) := by decide +kernel
theorem dX10_depthBy_25 : decode cX10_depthBy 25 = .ok (.invokestatic 116, 3) := by decide +kernel
theorem dX10_depthBy_28 : decode cX10_depthBy 28 = .ok (.ifCond .eq 13, 3) := by decide +kernel
theorem dX10_depthBy_31 : decode cX10_depthBy 31 = .ok (.aload_n 0, 1) := by decide +kernel
theorem dX10_depthBy_32 : decode cX10_depthBy 32 = .ok (.bipush 28, 2) := by decide +kernel
theorem dX10_depthBy_34 : decode cX10_depthBy 34 = .ok (.iconst 1, 1) := by decide +kernel
theorem dX10_depthBy_35 : decode cX10_depthBy 35 = .ok (.invokevirtual 207, 3) := by decide +kernel
theorem dX10_depthBy_38 : decode cX10_depthBy 38 = .ok (.goto 11, 3) := by decide +kernel
theorem dX10_depthBy_41 : decode cX10_depthBy 41 = .ok (.aload_n 0, 1) := by decide +kernel
theorem dX10_depthBy_42 : decode cX10_depthBy 42 = .ok (.bipush 28, 2) := by decide +kernel
theorem dX10_depthBy_44 : decode cX10_depthBy 44 = .ok (.invokevirtual 204, 3) := by decide +kernel
theorem dX10_depthBy_47 : decode cX10_depthBy 47 = .ok (.istore 4, 2) := by decide +kernel
theorem dX10_depthBy_49 : decode cX10_depthBy 49 = .ok (.iinc 3 1, 3) := by decide +kernel
theorem dX10_depthBy_52 : decode cX10_depthBy 52 = .ok (.goto (-43), 3) := by decide +kernel
theorem dX10_depthBy_55 : decode cX10_depthBy 55 = .ok (.aload_n 0, 1) := by decide +kernel
