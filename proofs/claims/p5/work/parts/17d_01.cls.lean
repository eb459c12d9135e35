theorem d_2_8_10 : decode prog_2_method_8_code 10 = .ok (.imul, 1) := D_104 W_prog_2_method_8_code_0 10 rfl rfl
theorem d_2_8_11 : decode prog_2_method_8_code 11 = .ok (.iushr, 1) := D_124 W_prog_2_method_8_code_0 11 rfl rfl
theorem d_2_8_12 : decode prog_2_method_8_code 12 = .ok (.ifCond .eq 20, 3) := D_153 W_prog_2_method_8_code_0 12 rfl rfl rfl
theorem d_2_8_15 : decode prog_2_method_8_code 15 = .ok (.aload_n 0, 1) := D_42 W_prog_2_method_8_code_0 15 rfl rfl
theorem d_2_8_16 : decode prog_2_method_8_code 16 = .ok (.iload_n 1, 1) := D_27 W_prog_2_method_8_code_0 16 rfl rfl
theorem d_2_8_17 : decode prog_2_method_8_code 17 = .ok (.bipush 7, 2) := D_16 W_prog_2_method_8_code_0 17 rfl rfl rfl
theorem d_2_8_19 : decode prog_2_method_8_code 19 = .ok (.iload_n 2, 1) := D_28 W_prog_2_method_8_code_0 19 rfl rfl
theorem d_2_8_20 : decode prog_2_method_8_code 20 = .ok (.imul, 1) := D_104 W_prog_2_method_8_code_0 20 rfl rfl
theorem d_2_8_21 : decode prog_2_method_8_code 21 = .ok (.iushr, 1) := D_124 W_prog_2_method_8_code_0 21 rfl rfl
theorem d_2_8_22 : decode prog_2_method_8_code 22 = .ok (.bipush 127, 2) := D_16 W_prog_2_method_8_code_0 22 rfl rfl rfl
theorem d_2_8_24 : decode prog_2_method_8_code 24 = .ok (.iand, 1) := D_126 W_prog_2_method_8_code_0 24 rfl rfl
theorem d_2_8_25 : decode prog_2_method_8_code 25 = .ok (.sipush 128, 3) := D_17 W_prog_2_method_8_code_0 25 rfl rfl rfl
theorem d_2_8_28 : decode prog_2_method_8_code 28 = .ok (.ior, 1) := D_128 W_prog_2_method_8_code_0 28 rfl rfl
theorem d_2_8_29 : decode prog_2_method_8_code 29 = .ok (.invokevirtual 39, 3) := D_182 W_prog_2_method_8_code_0 29 rfl rfl rfl
theorem d_2_8_32 : decode prog_2_method_8_code 32 = .ok (.iinc 2 (-1), 3) := D_132 W_prog_2_method_8_code_32 0 rfl rfl rfl
theorem d_2_8_35 : decode prog_2_method_8_code 35 = .ok (.goto (-33), 3) := D_167 W_prog_2_method_8_code_32 3 rfl rfl rfl
theorem W_prog_1_method_22_code_0 : chW prog_1_method_22_code 0 [42, 180, 0, 22, 27, 182, 1, 12, 172] := chW_of (by decide +kernel)
theorem d_1_22_0 : decode prog_1_method_22_code 0 = .ok (.aload_n 0, 1) := D_42 W_prog_1_method_22_code_0 0 rfl rfl
theorem d_1_22_1 : decode prog_1_method_22_code 1 = .ok (.getfield 22, 3) := D_180 W_prog_1_method_22_code_0 1 rfl rfl rfl
theorem d_1_22_4 : decode prog_1_method_22_code 4 = .ok (.iload_n 1, 1) := D_27 W_prog_1_method_22_code_0 4 rfl rfl
theorem d_1_22_5 : decode prog_1_method_22_code 5 = .ok (.invokevirtual 268, 3) := D_182 W_prog_1_method_22_code_0 5 rfl rfl rfl
theorem d_1_22_8 : decode prog_1_method_22_code 8 = .ok (.ireturn, 1) := D_172 W_prog_1_method_22_code_0 8 rfl rfl
theorem W_prog_1_method_23_code_0 : chW prog_1_method_23_code 0 [42, 180, 0, 22, 180, 0, 56, 153, 0, 16, 42, 180, 0, 22, 180, 0, 56, 17, 11, 184, 164, 0, 5, 2, 172, 42, 180, 0, 14, 182, 0, 92, 3, 60, 27, 42] := chW_of (by decide +kernel)
theorem d_1_23_0 : decode prog_1_method_23_code 0 = .ok (.aload_n 0, 1) := D_42 W_prog_1_method_23_code_0 0 rfl rfl
theorem d_1_23_1 : decode prog_1_method_23_code 1 = .ok (.getfield 22, 3) := D_180 W_prog_1_method_23_code_0 1 rfl rfl rfl
theorem d_1_23_4 : decode prog_1_method_23_code 4 = .ok (.getfield 56, 3) := D_180 W_prog_1_method_23_code_0 4 rfl rfl rfl
theorem d_1_23_7 : decode prog_1_method_23_code 7 = .ok (.ifCond .eq 16, 3) := D_153 W_prog_1_method_23_code_0 7 rfl rfl rfl
theorem d_1_23_10 : decode prog_1_method_23_code 10 = .ok (.aload_n 0, 1) := D_42 W_prog_1_method_23_code_0 10 rfl rfl
theorem d_1_23_11 : decode prog_1_method_23_code 11 = .ok (.getfield 22, 3) := D_180 W_prog_1_method_23_code_0 11 rfl rfl rfl
theorem d_1_23_14 : decode prog_1_method_23_code 14 = .ok (.getfield 56, 3) := D_180 W_prog_1_method_23_code_0 14 rfl rfl rfl
theorem d_1_23_17 : decode prog_1_method_23_code 17 = .ok (.sipush 3000, 3) := D_17 W_prog_1_method_23_code_0 17 rfl rfl rfl
theorem d_1_23_20 : decode prog_1_method_23_code 20 = .ok (.if_icmp .le 5, 3) := D_164 W_prog_1_method_23_code_0 20 rfl rfl rfl
theorem d_1_23_25 : decode prog_1_method_23_code 25 = .ok (.aload_n 0, 1) := D_42 W_prog_1_method_23_code_0 25 rfl rfl
theorem d_1_23_26 : decode prog_1_method_23_code 26 = .ok (.getfield 14, 3) := D_180 W_prog_1_method_23_code_0 26 rfl rfl rfl
theorem d_1_23_29 : decode prog_1_method_23_code 29 = .ok (.invokevirtual 92, 3) := D_182 W_prog_1_method_23_code_0 29 rfl rfl rfl
theorem W_prog_1_method_23_code_32 : chW prog_1_method_23_code 32 [3, 60, 27, 42, 180, 0, 22, 180, 0, 56, 162, 0, 24, 42, 180, 0, 14, 42, 180, 0, 22, 27, 182, 1, 12, 182, 0, 60, 132, 1, 1, 167, 255, 227, 42, 180] := chW_of (by decide +kernel)
theorem d_1_23_32 : decode prog_1_method_23_code 32 = .ok (.iconst 0, 1) := D_3 W_prog_1_method_23_code_32 0 rfl rfl
theorem d_1_23_33 : decode prog_1_method_23_code 33 = .ok (.istore_n 1, 1) := D_60 W_prog_1_method_23_code_32 1 rfl rfl
theorem d_1_23_23 : decode prog_1_method_23_code 23 = .ok (.iconst (-1), 1) := D_2 W_prog_1_method_23_code_0 23 rfl rfl
theorem d_1_23_24 : decode prog_1_method_23_code 24 = .ok (.ireturn, 1) := D_172 W_prog_1_method_23_code_0 24 rfl rfl
theorem d_1_23_34 : decode prog_1_method_23_code 34 = .ok (.iload_n 1, 1) := D_27 W_prog_1_method_23_code_32 2 rfl rfl
theorem d_1_23_35 : decode prog_1_method_23_code 35 = .ok (.aload_n 0, 1) := D_42 W_prog_1_method_23_code_32 3 rfl rfl
theorem d_1_23_36 : decode prog_1_method_23_code 36 = .ok (.getfield 22, 3) := D_180 W_prog_1_method_23_code_32 4 rfl rfl rfl
theorem d_1_23_39 : decode prog_1_method_23_code 39 = .ok (.getfield 56, 3) := D_180 W_prog_1_method_23_code_32 7 rfl rfl rfl
theorem d_1_23_42 : decode prog_1_method_23_code 42 = .ok (.if_icmp .ge 24, 3) := D_162 W_prog_1_method_23_code_32 10 rfl rfl rfl
theorem W_prog_1_method_23_code_64 : chW prog_1_method_23_code 64 [255, 227, 42, 180, 0, 14, 180, 0, 56, 172] := chW_of (by decide +kernel)
theorem d_1_23_66 : decode prog_1_method_23_code 66 = .ok (.aload_n 0, 1) := D_42 W_prog_1_method_23_code_64 2 rfl rfl
theorem d_1_23_67 : decode prog_1_method_23_code 67 = .ok (.getfield 14, 3) := D_180 W_prog_1_method_23_code_64 3 rfl rfl rfl
theorem d_1_23_70 : decode prog_1_method_23_code 70 = .ok (.getfield 56, 3) := D_180 W_prog_1_method_23_code_64 6 rfl rfl rfl
theorem d_1_23_73 : decode prog_1_method_23_code 73 = .ok (.ireturn, 1) := D_172 W_prog_1_method_23_code_64 9 rfl rfl
theorem d_1_23_45 : decode prog_1_method_23_code 45 = .ok (.aload_n 0, 1) := D_42 W_prog_1_method_23_code_32 13 rfl rfl
theorem d_1_23_46 : decode prog_1_method_23_code 46 = .ok (.getfield 14, 3) := D_180 W_prog_1_method_23_code_32 14 rfl rfl rfl
theorem d_1_23_49 : decode prog_1_method_23_code 49 = .ok (.aload_n 0, 1) := D_42 W_prog_1_method_23_code_32 17 rfl rfl
theorem d_1_23_50 : decode prog_1_method_23_code 50 = .ok (.getfield 22, 3) := D_180 W_prog_1_method_23_code_32 18 rfl rfl rfl
theorem d_1_23_53 : decode prog_1_method_23_code 53 = .ok (.iload_n 1, 1) := D_27 W_prog_1_method_23_code_32 21 rfl rfl
theorem d_1_23_54 : decode prog_1_method_23_code 54 = .ok (.invokevirtual 268, 3) := D_182 W_prog_1_method_23_code_32 22 rfl rfl rfl
theorem d_1_23_57 : decode prog_1_method_23_code 57 = .ok (.invokevirtual 60, 3) := D_182 W_prog_1_method_23_code_32 25 rfl rfl rfl
theorem d_1_23_60 : decode prog_1_method_23_code 60 = .ok (.iinc 1 1, 3) := D_132 W_prog_1_method_23_code_32 28 rfl rfl rfl
theorem d_1_23_63 : decode prog_1_method_23_code 63 = .ok (.goto (-29), 3) := D_167 W_prog_1_method_23_code_32 31 rfl rfl rfl
theorem W_prog_10_method_3_code_0 : chW prog_10_method_3_code 0 [42, 180, 0, 9, 3, 3, 79, 42, 180, 0, 9, 4, 3, 79, 42, 180, 0, 9, 5, 3, 79, 42, 180, 0, 9, 6, 3, 79, 42, 180, 0, 9, 7, 7, 79, 42] := chW_of (by decide +kernel)
theorem d_10_3_0 : decode prog_10_method_3_code 0 = .ok (.aload_n 0, 1) := D_42 W_prog_10_method_3_code_0 0 rfl rfl
theorem d_10_3_1 : decode prog_10_method_3_code 1 = .ok (.getfield 9, 3) := D_180 W_prog_10_method_3_code_0 1 rfl rfl rfl
theorem d_10_3_4 : decode prog_10_method_3_code 4 = .ok (.iconst 0, 1) := D_3 W_prog_10_method_3_code_0 4 rfl rfl
theorem d_10_3_5 : decode prog_10_method_3_code 5 = .ok (.iconst 0, 1) := D_3 W_prog_10_method_3_code_0 5 rfl rfl
theorem d_10_3_6 : decode prog_10_method_3_code 6 = .ok (.iastore, 1) := D_79 W_prog_10_method_3_code_0 6 rfl rfl
theorem d_10_3_7 : decode prog_10_method_3_code 7 = .ok (.aload_n 0, 1) := D_42 W_prog_10_method_3_code_0 7 rfl rfl
theorem d_10_3_8 : decode prog_10_method_3_code 8 = .ok (.getfield 9, 3) := D_180 W_prog_10_method_3_code_0 8 rfl rfl rfl
theorem d_10_3_11 : decode prog_10_method_3_code 11 = .ok (.iconst 1, 1) := D_4 W_prog_10_method_3_code_0 11 rfl rfl
theorem d_10_3_12 : decode prog_10_method_3_code 12 = .ok (.iconst 0, 1) := D_3 W_prog_10_method_3_code_0 12 rfl rfl
theorem d_10_3_13 : decode prog_10_method_3_code 13 = .ok (.iastore, 1) := D_79 W_prog_10_method_3_code_0 13 rfl rfl
theorem d_10_3_14 : decode prog_10_method_3_code 14 = .ok (.aload_n 0, 1) := D_42 W_prog_10_method_3_code_0 14 rfl rfl
theorem d_10_3_15 : decode prog_10_method_3_code 15 = .ok (.getfield 9, 3) := D_180 W_prog_10_method_3_code_0 15 rfl rfl rfl
theorem d_10_3_18 : decode prog_10_method_3_code 18 = .ok (.iconst 2, 1) := D_5 W_prog_10_method_3_code_0 18 rfl rfl
theorem d_10_3_19 : decode prog_10_method_3_code 19 = .ok (.iconst 0, 1) := D_3 W_prog_10_method_3_code_0 19 rfl rfl
theorem d_10_3_20 : decode prog_10_method_3_code 20 = .ok (.iastore, 1) := D_79 W_prog_10_method_3_code_0 20 rfl rfl
theorem d_10_3_21 : decode prog_10_method_3_code 21 = .ok (.aload_n 0, 1) := D_42 W_prog_10_method_3_code_0 21 rfl rfl
theorem d_10_3_22 : decode prog_10_method_3_code 22 = .ok (.getfield 9, 3) := D_180 W_prog_10_method_3_code_0 22 rfl rfl rfl
theorem d_10_3_25 : decode prog_10_method_3_code 25 = .ok (.iconst 3, 1) := D_6 W_prog_10_method_3_code_0 25 rfl rfl
theorem d_10_3_26 : decode prog_10_method_3_code 26 = .ok (.iconst 0, 1) := D_3 W_prog_10_method_3_code_0 26 rfl rfl
theorem d_10_3_27 : decode prog_10_method_3_code 27 = .ok (.iastore, 1) := D_79 W_prog_10_method_3_code_0 27 rfl rfl
theorem d_10_3_28 : decode prog_10_method_3_code 28 = .ok (.aload_n 0, 1) := D_42 W_prog_10_method_3_code_0 28 rfl rfl
theorem d_10_3_29 : decode prog_10_method_3_code 29 = .ok (.getfield 9, 3) := D_180 W_prog_10_method_3_code_0 29 rfl rfl rfl
theorem W_prog_10_method_3_code_32 : chW prog_10_method_3_code 32 [7, 7, 79, 42, 180, 0, 9, 8, 7, 79, 42, 180, 0, 9, 16, 6, 16, 120, 79, 42, 3, 181, 0, 73, 42, 3, 181, 0, 77, 42, 3, 181, 0, 80, 3, 60] := chW_of (by decide +kernel)
theorem d_10_3_32 : decode prog_10_method_3_code 32 = .ok (.iconst 4, 1) := D_7 W_prog_10_method_3_code_32 0 rfl rfl
theorem d_10_3_33 : decode prog_10_method_3_code 33 = .ok (.iconst 4, 1) := D_7 W_prog_10_method_3_code_32 1 rfl rfl
theorem d_10_3_34 : decode prog_10_method_3_code 34 = .ok (.iastore, 1) := D_79 W_prog_10_method_3_code_32 2 rfl rfl
theorem d_10_3_35 : decode prog_10_method_3_code 35 = .ok (.aload_n 0, 1) := D_42 W_prog_10_method_3_code_32 3 rfl rfl
theorem d_10_3_36 : decode prog_10_method_3_code 36 = .ok (.getfield 9, 3) := D_180 W_prog_10_method_3_code_32 4 rfl rfl rfl
theorem d_10_3_39 : decode prog_10_method_3_code 39 = .ok (.iconst 5, 1) := D_8 W_prog_10_method_3_code_32 7 rfl rfl
theorem d_10_3_40 : decode prog_10_method_3_code 40 = .ok (.iconst 4, 1) := D_7 W_prog_10_method_3_code_32 8 rfl rfl
theorem d_10_3_41 : decode prog_10_method_3_code 41 = .ok (.iastore, 1) := D_79 W_prog_10_method_3_code_32 9 rfl rfl
theorem d_10_3_42 : decode prog_10_method_3_code 42 = .ok (.aload_n 0, 1) := D_42 W_prog_10_method_3_code_32 10 rfl rfl
theorem d_10_3_43 : decode prog_10_method_3_code 43 = .ok (.getfield 9, 3) := D_180 W_prog_10_method_3_code_32 11 rfl rfl rfl
theorem d_10_3_46 : decode prog_10_method_3_code 46 = .ok (.bipush 6, 2) := D_16 W_prog_10_method_3_code_32 14 rfl rfl rfl
theorem d_10_3_48 : decode prog_10_method_3_code 48 = .ok (.bipush 120, 2) := D_16 W_prog_10_method_3_code_32 16 rfl rfl rfl
theorem d_10_3_50 : decode prog_10_method_3_code 50 = .ok (.iastore, 1) := D_79 W_prog_10_method_3_code_32 18 rfl rfl
theorem d_10_3_51 : decode prog_10_method_3_code 51 = .ok (.aload_n 0, 1) := D_42 W_prog_10_method_3_code_32 19 rfl rfl
theorem d_10_3_52 : decode prog_10_method_3_code 52 = .ok (.iconst 0, 1) := D_3 W_prog_10_method_3_code_32 20 rfl rfl
theorem d_10_3_53 : decode prog_10_method_3_code 53 = .ok (.putfield 73, 3) := D_181 W_prog_10_method_3_code_32 21 rfl rfl rfl
theorem d_10_3_56 : decode prog_10_method_3_code 56 = .ok (.aload_n 0, 1) := D_42 W_prog_10_method_3_code_32 24 rfl rfl
theorem d_10_3_57 : decode prog_10_method_3_code 57 = .ok (.iconst 0, 1) := D_3 W_prog_10_method_3_code_32 25 rfl rfl
theorem d_10_3_58 : decode prog_10_method_3_code 58 = .ok (.putfield 77, 3) := D_181 W_prog_10_method_3_code_32 26 rfl rfl rfl
theorem d_10_3_61 : decode prog_10_method_3_code 61 = .ok (.aload_n 0, 1) := D_42 W_prog_10_method_3_code_32 29 rfl rfl
theorem d_10_3_62 : decode prog_10_method_3_code 62 = .ok (.iconst 0, 1) := D_3 W_prog_10_method_3_code_32 30 rfl rfl
theorem d_10_3_63 : decode prog_10_method_3_code 63 = .ok (.putfield 80, 3) := D_181 W_prog_10_method_3_code_32 31 rfl rfl rfl
theorem W_prog_10_method_3_code_64 : chW prog_10_method_3_code 64 [0, 80, 3, 60, 27, 16, 8, 162, 0, 16, 42, 180, 0, 20, 27, 2, 79, 132, 1, 1, 167, 255, 240, 177] := chW_of (by decide +kernel)
theorem d_10_3_66 : decode prog_10_method_3_code 66 = .ok (.iconst 0, 1) := D_3 W_prog_10_method_3_code_64 2 rfl rfl
theorem d_10_3_67 : decode prog_10_method_3_code 67 = .ok (.istore_n 1, 1) := D_60 W_prog_10_method_3_code_64 3 rfl rfl
theorem d_10_3_68 : decode prog_10_method_3_code 68 = .ok (.iload_n 1, 1) := D_27 W_prog_10_method_3_code_64 4 rfl rfl
theorem d_10_3_69 : decode prog_10_method_3_code 69 = .ok (.bipush 8, 2) := D_16 W_prog_10_method_3_code_64 5 rfl rfl rfl
theorem d_10_3_71 : decode prog_10_method_3_code 71 = .ok (.if_icmp .ge 16, 3) := D_162 W_prog_10_method_3_code_64 7 rfl rfl rfl
theorem d_10_3_87 : decode prog_10_method_3_code 87 = .ok (.return_, 1) := D_177 W_prog_10_method_3_code_64 23 rfl rfl
theorem d_10_3_74 : decode prog_10_method_3_code 74 = .ok (.aload_n 0, 1) := D_42 W_prog_10_method_3_code_64 10 rfl rfl
theorem d_10_3_75 : decode prog_10_method_3_code 75 = .ok (.getfield 20, 3) := D_180 W_prog_10_method_3_code_64 11 rfl rfl rfl
theorem d_10_3_78 : decode prog_10_method_3_code 78 = .ok (.iload_n 1, 1) := D_27 W_prog_10_method_3_code_64 14 rfl rfl
theorem d_10_3_79 : decode prog_10_method_3_code 79 = .ok (.iconst (-1), 1) := D_2 W_prog_10_method_3_code_64 15 rfl rfl
theorem d_10_3_80 : decode prog_10_method_3_code 80 = .ok (.iastore, 1) := D_79 W_prog_10_method_3_code_64 16 rfl rfl
theorem d_10_3_81 : decode prog_10_method_3_code 81 = .ok (.iinc 1 1, 3) := D_132 W_prog_10_method_3_code_64 17 rfl rfl rfl
theorem d_10_3_84 : decode prog_10_method_3_code 84 = .ok (.goto (-16), 3) := D_167 W_prog_10_method_3_code_64 20 rfl rfl rfl
theorem W_prog_10_method_4_code_0 : chW prog_10_method_4_code 0 [42, 180, 0, 39, 154, 0, 13, 42, 27, 16, 16, 28, 104, 96, 181, 0, 39, 177] := chW_of (by decide +kernel)
theorem d_10_4_0 : decode prog_10_method_4_code 0 = .ok (.aload_n 0, 1) := D_42 W_prog_10_method_4_code_0 0 rfl rfl
theorem d_10_4_1 : decode prog_10_method_4_code 1 = .ok (.getfield 39, 3) := D_180 W_prog_10_method_4_code_0 1 rfl rfl rfl
theorem d_10_4_4 : decode prog_10_method_4_code 4 = .ok (.ifCond .ne 13, 3) := D_154 W_prog_10_method_4_code_0 4 rfl rfl rfl
theorem d_10_4_7 : decode prog_10_method_4_code 7 = .ok (.aload_n 0, 1) := D_42 W_prog_10_method_4_code_0 7 rfl rfl
theorem d_10_4_8 : decode prog_10_method_4_code 8 = .ok (.iload_n 1, 1) := D_27 W_prog_10_method_4_code_0 8 rfl rfl
theorem d_10_4_9 : decode prog_10_method_4_code 9 = .ok (.bipush 16, 2) := D_16 W_prog_10_method_4_code_0 9 rfl rfl rfl
theorem d_10_4_11 : decode prog_10_method_4_code 11 = .ok (.iload_n 2, 1) := D_28 W_prog_10_method_4_code_0 11 rfl rfl
theorem d_10_4_12 : decode prog_10_method_4_code 12 = .ok (.imul, 1) := D_104 W_prog_10_method_4_code_0 12 rfl rfl
theorem d_10_4_13 : decode prog_10_method_4_code 13 = .ok (.iadd, 1) := D_96 W_prog_10_method_4_code_0 13 rfl rfl
theorem d_10_4_14 : decode prog_10_method_4_code 14 = .ok (.putfield 39, 3) := D_181 W_prog_10_method_4_code_0 14 rfl rfl rfl
theorem d_10_4_17 : decode prog_10_method_4_code 17 = .ok (.return_, 1) := D_177 W_prog_10_method_4_code_0 17 rfl rfl
theorem W_prog_10_method_11_code_0 : chW prog_10_method_11_code 0 [42, 180, 0, 27, 133, 31, 97, 42, 180, 0, 36, 133, 148, 158, 0, 15, 42, 5, 42, 180, 0, 36, 182, 0, 83, 167, 0, 21, 42, 180, 0, 39, 154, 0, 14, 42] := chW_of (by decide +kernel)
theorem d_10_11_0 : decode prog_10_method_11_code 0 = .ok (.aload_n 0, 1) := D_42 W_prog_10_method_11_code_0 0 rfl rfl
theorem d_10_11_1 : decode prog_10_method_11_code 1 = .ok (.getfield 27, 3) := D_180 W_prog_10_method_11_code_0 1 rfl rfl rfl
theorem d_10_11_4 : decode prog_10_method_11_code 4 = .ok (.i2l, 1) := D_133 W_prog_10_method_11_code_0 4 rfl rfl
theorem d_10_11_5 : decode prog_10_method_11_code 5 = .ok (.lload_n 1, 1) := D_31 W_prog_10_method_11_code_0 5 rfl rfl
theorem d_10_11_6 : decode prog_10_method_11_code 6 = .ok (.ladd, 1) := D_97 W_prog_10_method_11_code_0 6 rfl rfl
theorem d_10_11_7 : decode prog_10_method_11_code 7 = .ok (.aload_n 0, 1) := D_42 W_prog_10_method_11_code_0 7 rfl rfl
theorem d_10_11_8 : decode prog_10_method_11_code 8 = .ok (.getfield 36, 3) := D_180 W_prog_10_method_11_code_0 8 rfl rfl rfl
theorem d_10_11_11 : decode prog_10_method_11_code 11 = .ok (.i2l, 1) := D_133 W_prog_10_method_11_code_0 11 rfl rfl
theorem d_10_11_12 : decode prog_10_method_11_code 12 = .ok (.lcmp, 1) := D_148 W_prog_10_method_11_code_0 12 rfl rfl
theorem d_10_11_13 : decode prog_10_method_11_code 13 = .ok (.ifCond .le 15, 3) := D_158 W_prog_10_method_11_code_0 13 rfl rfl rfl
theorem d_10_11_28 : decode prog_10_method_11_code 28 = .ok (.aload_n 0, 1) := D_42 W_prog_10_method_11_code_0 28 rfl rfl
theorem d_10_11_29 : decode prog_10_method_11_code 29 = .ok (.getfield 39, 3) := D_180 W_prog_10_method_11_code_0 29 rfl rfl rfl
theorem W_prog_10_method_11_code_32 : chW prog_10_method_11_code 32 [154, 0, 14, 42, 89, 180, 0, 27, 31, 136, 96, 181, 0, 27, 177] := chW_of (by decide +kernel)
theorem d_10_11_32 : decode prog_10_method_11_code 32 = .ok (.ifCond .ne 14, 3) := D_154 W_prog_10_method_11_code_32 0 rfl rfl rfl
theorem d_10_11_35 : decode prog_10_method_11_code 35 = .ok (.aload_n 0, 1) := D_42 W_prog_10_method_11_code_32 3 rfl rfl
theorem d_10_11_36 : decode prog_10_method_11_code 36 = .ok (.dup, 1) := D_89 W_prog_10_method_11_code_32 4 rfl rfl
theorem d_10_11_37 : decode prog_10_method_11_code 37 = .ok (.getfield 27, 3) := D_180 W_prog_10_method_11_code_32 5 rfl rfl rfl
theorem d_10_11_40 : decode prog_10_method_11_code 40 = .ok (.lload_n 1, 1) := D_31 W_prog_10_method_11_code_32 8 rfl rfl
theorem d_10_11_41 : decode prog_10_method_11_code 41 = .ok (.l2i, 1) := D_136 W_prog_10_method_11_code_32 9 rfl rfl
theorem d_10_11_42 : decode prog_10_method_11_code 42 = .ok (.iadd, 1) := D_96 W_prog_10_method_11_code_32 10 rfl rfl
theorem d_10_11_43 : decode prog_10_method_11_code 43 = .ok (.putfield 27, 3) := D_181 W_prog_10_method_11_code_32 11 rfl rfl rfl
theorem d_10_11_16 : decode prog_10_method_11_code 16 = .ok (.aload_n 0, 1) := D_42 W_prog_10_method_11_code_0 16 rfl rfl
theorem d_10_11_17 : decode prog_10_method_11_code 17 = .ok (.iconst 2, 1) := D_5 W_prog_10_method_11_code_0 17 rfl rfl
theorem d_10_11_18 : decode prog_10_method_11_code 18 = .ok (.aload_n 0, 1) := D_42 W_prog_10_method_11_code_0 18 rfl rfl
theorem d_10_11_19 : decode prog_10_method_11_code 19 = .ok (.getfield 36, 3) := D_180 W_prog_10_method_11_code_0 19 rfl rfl rfl
theorem d_10_11_22 : decode prog_10_method_11_code 22 = .ok (.invokevirtual 83, 3) := D_182 W_prog_10_method_11_code_0 22 rfl rfl rfl
theorem d_10_11_25 : decode prog_10_method_11_code 25 = .ok (.goto 21, 3) := D_167 W_prog_10_method_11_code_0 25 rfl rfl rfl
theorem d_10_11_46 : decode prog_10_method_11_code 46 = .ok (.return_, 1) := D_177 W_prog_10_method_11_code_32 14 rfl rfl
theorem W_prog_10_method_19_code_0 : chW prog_10_method_19_code 0 [42, 180, 0, 77, 154, 0, 45, 27, 4, 161, 0, 40, 27, 16, 12, 163, 0, 34, 28, 4, 161, 0, 29, 28, 7, 163, 0, 24, 42, 180, 0, 9, 7, 27, 79, 42] := chW_of (by decide +kernel)
theorem d_10_19_0 : decode prog_10_method_19_code 0 = .ok (.aload_n 0, 1) := D_42 W_prog_10_method_19_code_0 0 rfl rfl
theorem d_10_19_1 : decode prog_10_method_19_code 1 = .ok (.getfield 77, 3) := D_180 W_prog_10_method_19_code_0 1 rfl rfl rfl
theorem d_10_19_4 : decode prog_10_method_19_code 4 = .ok (.ifCond .ne 45, 3) := D_154 W_prog_10_method_19_code_0 4 rfl rfl rfl
theorem d_10_19_7 : decode prog_10_method_19_code 7 = .ok (.iload_n 1, 1) := D_27 W_prog_10_method_19_code_0 7 rfl rfl
theorem d_10_19_8 : decode prog_10_method_19_code 8 = .ok (.iconst 1, 1) := D_4 W_prog_10_method_19_code_0 8 rfl rfl
theorem d_10_19_9 : decode prog_10_method_19_code 9 = .ok (.if_icmp .lt 40, 3) := D_161 W_prog_10_method_19_code_0 9 rfl rfl rfl
theorem d_10_19_12 : decode prog_10_method_19_code 12 = .ok (.iload_n 1, 1) := D_27 W_prog_10_method_19_code_0 12 rfl rfl
theorem d_10_19_13 : decode prog_10_method_19_code 13 = .ok (.bipush 12, 2) := D_16 W_prog_10_method_19_code_0 13 rfl rfl rfl
theorem d_10_19_15 : decode prog_10_method_19_code 15 = .ok (.if_icmp .gt 34, 3) := D_163 W_prog_10_method_19_code_0 15 rfl rfl rfl
theorem d_10_19_18 : decode prog_10_method_19_code 18 = .ok (.iload_n 2, 1) := D_28 W_prog_10_method_19_code_0 18 rfl rfl
theorem d_10_19_19 : decode prog_10_method_19_code 19 = .ok (.iconst 1, 1) := D_4 W_prog_10_method_19_code_0 19 rfl rfl
theorem d_10_19_20 : decode prog_10_method_19_code 20 = .ok (.if_icmp .lt 29, 3) := D_161 W_prog_10_method_19_code_0 20 rfl rfl rfl
theorem d_10_19_23 : decode prog_10_method_19_code 23 = .ok (.iload_n 2, 1) := D_28 W_prog_10_method_19_code_0 23 rfl rfl
theorem d_10_19_24 : decode prog_10_method_19_code 24 = .ok (.iconst 4, 1) := D_7 W_prog_10_method_19_code_0 24 rfl rfl
theorem d_10_19_25 : decode prog_10_method_19_code 25 = .ok (.if_icmp .gt 24, 3) := D_163 W_prog_10_method_19_code_0 25 rfl rfl rfl
theorem d_10_19_28 : decode prog_10_method_19_code 28 = .ok (.aload_n 0, 1) := D_42 W_prog_10_method_19_code_0 28 rfl rfl
theorem d_10_19_29 : decode prog_10_method_19_code 29 = .ok (.getfield 9, 3) := D_180 W_prog_10_method_19_code_0 29 rfl rfl rfl
theorem W_prog_10_method_19_code_32 : chW prog_10_method_19_code 32 [7, 27, 79, 42, 180, 0, 9, 8, 4, 28, 120, 79, 42, 4, 181, 0, 77, 177] := chW_of (by decide +kernel)
theorem d_10_19_32 : decode prog_10_method_19_code 32 = .ok (.iconst 4, 1) := D_7 W_prog_10_method_19_code_32 0 rfl rfl
theorem d_10_19_33 : decode prog_10_method_19_code 33 = .ok (.iload_n 1, 1) := D_27 W_prog_10_method_19_code_32 1 rfl rfl
theorem d_10_19_34 : decode prog_10_method_19_code 34 = .ok (.iastore, 1) := D_79 W_prog_10_method_19_code_32 2 rfl rfl
theorem d_10_19_35 : decode prog_10_method_19_code 35 = .ok (.aload_n 0, 1) := D_42 W_prog_10_method_19_code_32 3 rfl rfl
theorem d_10_19_36 : decode prog_10_method_19_code 36 = .ok (.getfield 9, 3) := D_180 W_prog_10_method_19_code_32 4 rfl rfl rfl
theorem d_10_19_39 : decode prog_10_method_19_code 39 = .ok (.iconst 5, 1) := D_8 W_prog_10_method_19_code_32 7 rfl rfl
theorem d_10_19_40 : decode prog_10_method_19_code 40 = .ok (.iconst 1, 1) := D_4 W_prog_10_method_19_code_32 8 rfl rfl
theorem d_10_19_41 : decode prog_10_method_19_code 41 = .ok (.iload_n 2, 1) := D_28 W_prog_10_method_19_code_32 9 rfl rfl
theorem d_10_19_42 : decode prog_10_method_19_code 42 = .ok (.ishl, 1) := D_120 W_prog_10_method_19_code_32 10 rfl rfl
theorem d_10_19_43 : decode prog_10_method_19_code 43 = .ok (.iastore, 1) := D_79 W_prog_10_method_19_code_32 11 rfl rfl
theorem d_10_19_44 : decode prog_10_method_19_code 44 = .ok (.aload_n 0, 1) := D_42 W_prog_10_method_19_code_32 12 rfl rfl
theorem d_10_19_45 : decode prog_10_method_19_code 45 = .ok (.iconst 1, 1) := D_4 W_prog_10_method_19_code_32 13 rfl rfl
theorem d_10_19_46 : decode prog_10_method_19_code 46 = .ok (.putfield 77, 3) := D_181 W_prog_10_method_19_code_32 14 rfl rfl rfl
theorem d_10_19_49 : decode prog_10_method_19_code 49 = .ok (.return_, 1) := D_177 W_prog_10_method_19_code_32 17 rfl rfl
theorem W_prog_10_method_20_code_0 : chW prog_10_method_20_code 0 [42, 180, 0, 73, 154, 0, 36, 27, 184, 0, 165, 16, 7, 163, 0, 27, 28, 4, 163, 0, 22, 42, 180, 0, 9, 5, 27, 79, 42, 180, 0, 9, 6, 28, 79, 42] := chW_of (by decide +kernel)
theorem d_10_20_0 : decode prog_10_method_20_code 0 = .ok (.aload_n 0, 1) := D_42 W_prog_10_method_20_code_0 0 rfl rfl
theorem d_10_20_1 : decode prog_10_method_20_code 1 = .ok (.getfield 73, 3) := D_180 W_prog_10_method_20_code_0 1 rfl rfl rfl
theorem d_10_20_4 : decode prog_10_method_20_code 4 = .ok (.ifCond .ne 36, 3) := D_154 W_prog_10_method_20_code_0 4 rfl rfl rfl
theorem d_10_20_7 : decode prog_10_method_20_code 7 = .ok (.iload_n 1, 1) := D_27 W_prog_10_method_20_code_0 7 rfl rfl
theorem d_10_20_8 : decode prog_10_method_20_code 8 = .ok (.invokestatic 165, 3) := D_184 W_prog_10_method_20_code_0 8 rfl rfl rfl
theorem d_10_20_11 : decode prog_10_method_20_code 11 = .ok (.bipush 7, 2) := D_16 W_prog_10_method_20_code_0 11 rfl rfl rfl
theorem d_10_20_13 : decode prog_10_method_20_code 13 = .ok (.if_icmp .gt 27, 3) := D_163 W_prog_10_method_20_code_0 13 rfl rfl rfl
theorem d_10_20_16 : decode prog_10_method_20_code 16 = .ok (.iload_n 2, 1) := D_28 W_prog_10_method_20_code_0 16 rfl rfl
theorem d_10_20_17 : decode prog_10_method_20_code 17 = .ok (.iconst 1, 1) := D_4 W_prog_10_method_20_code_0 17 rfl rfl
theorem d_10_20_18 : decode prog_10_method_20_code 18 = .ok (.if_icmp .gt 22, 3) := D_163 W_prog_10_method_20_code_0 18 rfl rfl rfl
theorem d_10_20_21 : decode prog_10_method_20_code 21 = .ok (.aload_n 0, 1) := D_42 W_prog_10_method_20_code_0 21 rfl rfl
theorem d_10_20_22 : decode prog_10_method_20_code 22 = .ok (.getfield 9, 3) := D_180 W_prog_10_method_20_code_0 22 rfl rfl rfl
theorem d_10_20_25 : decode prog_10_method_20_code 25 = .ok (.iconst 2, 1) := D_5 W_prog_10_method_20_code_0 25 rfl rfl
theorem d_10_20_26 : decode prog_10_method_20_code 26 = .ok (.iload_n 1, 1) := D_27 W_prog_10_method_20_code_0 26 rfl rfl
theorem d_10_20_27 : decode prog_10_method_20_code 27 = .ok (.iastore, 1) := D_79 W_prog_10_method_20_code_0 27 rfl rfl
theorem d_10_20_28 : decode prog_10_method_20_code 28 = .ok (.aload_n 0, 1) := D_42 W_prog_10_method_20_code_0 28 rfl rfl
theorem d_10_20_29 : decode prog_10_method_20_code 29 = .ok (.getfield 9, 3) := D_180 W_prog_10_method_20_code_0 29 rfl rfl rfl
theorem W_prog_10_method_20_code_32 : chW prog_10_method_20_code 32 [6, 28, 79, 42, 4, 181, 0, 73, 177] := chW_of (by decide +kernel)
theorem d_10_20_32 : decode prog_10_method_20_code 32 = .ok (.iconst 3, 1) := D_6 W_prog_10_method_20_code_32 0 rfl rfl
theorem d_10_20_33 : decode prog_10_method_20_code 33 = .ok (.iload_n 2, 1) := D_28 W_prog_10_method_20_code_32 1 rfl rfl
theorem d_10_20_34 : decode prog_10_method_20_code 34 = .ok (.iastore, 1) := D_79 W_prog_10_method_20_code_32 2 rfl rfl
theorem d_10_20_35 : decode prog_10_method_20_code 35 = .ok (.aload_n 0, 1) := D_42 W_prog_10_method_20_code_32 3 rfl rfl
theorem d_10_20_36 : decode prog_10_method_20_code 36 = .ok (.iconst 1, 1) := D_4 W_prog_10_method_20_code_32 4 rfl rfl
theorem d_10_20_37 : decode prog_10_method_20_code 37 = .ok (.putfield 73, 3) := D_181 W_prog_10_method_20_code_32 5 rfl rfl rfl
theorem d_10_20_40 : decode prog_10_method_20_code 40 = .ok (.return_, 1) := D_177 W_prog_10_method_20_code_32 8 rfl rfl
theorem W_prog_10_method_21_code_0 : chW prog_10_method_21_code 0 [42, 180, 0, 80, 154, 0, 41, 42, 180, 0, 9, 16, 6, 27, 4, 162, 0, 9, 17, 1, 44, 167, 0, 18, 16, 20, 17, 1, 44, 18, 168, 27, 108, 184, 0, 169] := chW_of (by decide +kernel)
theorem d_10_21_0 : decode prog_10_method_21_code 0 = .ok (.aload_n 0, 1) := D_42 W_prog_10_method_21_code_0 0 rfl rfl
theorem d_10_21_1 : decode prog_10_method_21_code 1 = .ok (.getfield 80, 3) := D_180 W_prog_10_method_21_code_0 1 rfl rfl rfl
theorem d_10_21_4 : decode prog_10_method_21_code 4 = .ok (.ifCond .ne 41, 3) := D_154 W_prog_10_method_21_code_0 4 rfl rfl rfl
theorem d_10_21_7 : decode prog_10_method_21_code 7 = .ok (.aload_n 0, 1) := D_42 W_prog_10_method_21_code_0 7 rfl rfl
theorem d_10_21_8 : decode prog_10_method_21_code 8 = .ok (.getfield 9, 3) := D_180 W_prog_10_method_21_code_0 8 rfl rfl rfl
theorem d_10_21_11 : decode prog_10_method_21_code 11 = .ok (.bipush 6, 2) := D_16 W_prog_10_method_21_code_0 11 rfl rfl rfl
theorem d_10_21_13 : decode prog_10_method_21_code 13 = .ok (.iload_n 1, 1) := D_27 W_prog_10_method_21_code_0 13 rfl rfl
theorem d_10_21_14 : decode prog_10_method_21_code 14 = .ok (.iconst 1, 1) := D_4 W_prog_10_method_21_code_0 14 rfl rfl
theorem d_10_21_15 : decode prog_10_method_21_code 15 = .ok (.if_icmp .ge 9, 3) := D_162 W_prog_10_method_21_code_0 15 rfl rfl rfl
theorem d_10_21_24 : decode prog_10_method_21_code 24 = .ok (.bipush 20, 2) := D_16 W_prog_10_method_21_code_0 24 rfl rfl rfl
theorem d_10_21_26 : decode prog_10_method_21_code 26 = .ok (.sipush 300, 3) := D_17 W_prog_10_method_21_code_0 26 rfl rfl rfl
theorem d_10_21_29 : decode prog_10_method_21_code 29 = .ok (.ldc 168, 2) := D_18 W_prog_10_method_21_code_0 29 rfl rfl
theorem d_10_21_31 : decode prog_10_method_21_code 31 = .ok (.iload_n 1, 1) := D_27 W_prog_10_method_21_code_0 31 rfl rfl
theorem W_prog_10_method_21_code_32 : chW prog_10_method_21_code 32 [108, 184, 0, 169, 184, 0, 172, 79, 42, 4, 181, 0, 80, 177] := chW_of (by decide +kernel)
theorem d_10_21_32 : decode prog_10_method_21_code 32 = .ok (.idiv, 1) := D_108 W_prog_10_method_21_code_32 0 rfl rfl
theorem d_10_21_33 : decode prog_10_method_21_code 33 = .ok (.invokestatic 169, 3) := D_184 W_prog_10_method_21_code_32 1 rfl rfl rfl
theorem d_10_21_36 : decode prog_10_method_21_code 36 = .ok (.invokestatic 172, 3) := D_184 W_prog_10_method_21_code_32 4 rfl rfl rfl
theorem d_10_21_18 : decode prog_10_method_21_code 18 = .ok (.sipush 300, 3) := D_17 W_prog_10_method_21_code_0 18 rfl rfl rfl
theorem d_10_21_21 : decode prog_10_method_21_code 21 = .ok (.goto 18, 3) := D_167 W_prog_10_method_21_code_0 21 rfl rfl rfl
theorem d_10_21_39 : decode prog_10_method_21_code 39 = .ok (.iastore, 1) := D_79 W_prog_10_method_21_code_32 7 rfl rfl
theorem d_10_21_40 : decode prog_10_method_21_code 40 = .ok (.aload_n 0, 1) := D_42 W_prog_10_method_21_code_32 8 rfl rfl
theorem d_10_21_41 : decode prog_10_method_21_code 41 = .ok (.iconst 1, 1) := D_4 W_prog_10_method_21_code_32 9 rfl rfl
theorem d_10_21_42 : decode prog_10_method_21_code 42 = .ok (.putfield 80, 3) := D_181 W_prog_10_method_21_code_32 10 rfl rfl rfl
theorem d_10_21_45 : decode prog_10_method_21_code 45 = .ok (.return_, 1) := D_177 W_prog_10_method_21_code_32 13 rfl rfl
theorem W_prog_10_method_16_code_0 : chW prog_10_method_16_code 0 [42, 180, 0, 42, 17, 1, 144, 161, 0, 10, 42, 6, 29, 182, 0, 83, 177, 42, 180, 0, 17, 3, 50, 42, 180, 0, 42, 42, 180, 0, 51, 133, 80, 42, 180, 0] := chW_of (by decide +kernel)
theorem d_10_16_0 : decode prog_10_method_16_code 0 = .ok (.aload_n 0, 1) := D_42 W_prog_10_method_16_code_0 0 rfl rfl
theorem d_10_16_1 : decode prog_10_method_16_code 1 = .ok (.getfield 42, 3) := D_180 W_prog_10_method_16_code_0 1 rfl rfl rfl
theorem d_10_16_4 : decode prog_10_method_16_code 4 = .ok (.sipush 400, 3) := D_17 W_prog_10_method_16_code_0 4 rfl rfl rfl
theorem d_10_16_7 : decode prog_10_method_16_code 7 = .ok (.if_icmp .lt 10, 3) := D_161 W_prog_10_method_16_code_0 7 rfl rfl rfl
theorem d_10_16_17 : decode prog_10_method_16_code 17 = .ok (.aload_n 0, 1) := D_42 W_prog_10_method_16_code_0 17 rfl rfl
theorem d_10_16_18 : decode prog_10_method_16_code 18 = .ok (.getfield 17, 3) := D_180 W_prog_10_method_16_code_0 18 rfl rfl rfl
theorem d_10_16_21 : decode prog_10_method_16_code 21 = .ok (.iconst 0, 1) := D_3 W_prog_10_method_16_code_0 21 rfl rfl
theorem d_10_16_22 : decode prog_10_method_16_code 22 = .ok (.aaload, 1) := D_50 W_prog_10_method_16_code_0 22 rfl rfl
theorem d_10_16_23 : decode prog_10_method_16_code 23 = .ok (.aload_n 0, 1) := D_42 W_prog_10_method_16_code_0 23 rfl rfl
theorem d_10_16_24 : decode prog_10_method_16_code 24 = .ok (.getfield 42, 3) := D_180 W_prog_10_method_16_code_0 24 rfl rfl rfl
theorem d_10_16_27 : decode prog_10_method_16_code 27 = .ok (.aload_n 0, 1) := D_42 W_prog_10_method_16_code_0 27 rfl rfl
theorem d_10_16_28 : decode prog_10_method_16_code 28 = .ok (.getfield 51, 3) := D_180 W_prog_10_method_16_code_0 28 rfl rfl rfl
theorem d_10_16_31 : decode prog_10_method_16_code 31 = .ok (.i2l, 1) := D_133 W_prog_10_method_16_code_0 31 rfl rfl
theorem W_prog_10_method_16_code_32 : chW prog_10_method_16_code 32 [80, 42, 180, 0, 17, 4, 50, 42, 180, 0, 42, 42, 180, 0, 120, 16, 16, 112, 133, 80, 42, 180, 0, 17, 5, 50, 42, 180, 0, 42, 27, 133, 80, 42, 180, 0] := chW_of (by decide +kernel)
theorem d_10_16_32 : decode prog_10_method_16_code 32 = .ok (.lastore, 1) := D_80 W_prog_10_method_16_code_32 0 rfl rfl
theorem d_10_16_33 : decode prog_10_method_16_code 33 = .ok (.aload_n 0, 1) := D_42 W_prog_10_method_16_code_32 1 rfl rfl
theorem d_10_16_34 : decode prog_10_method_16_code 34 = .ok (.getfield 17, 3) := D_180 W_prog_10_method_16_code_32 2 rfl rfl rfl
theorem d_10_16_37 : decode prog_10_method_16_code 37 = .ok (.iconst 1, 1) := D_4 W_prog_10_method_16_code_32 5 rfl rfl
theorem d_10_16_38 : decode prog_10_method_16_code 38 = .ok (.aaload, 1) := D_50 W_prog_10_method_16_code_32 6 rfl rfl
theorem d_10_16_39 : decode prog_10_method_16_code 39 = .ok (.aload_n 0, 1) := D_42 W_prog_10_method_16_code_32 7 rfl rfl
theorem d_10_16_40 : decode prog_10_method_16_code 40 = .ok (.getfield 42, 3) := D_180 W_prog_10_method_16_code_32 8 rfl rfl rfl
theorem d_10_16_43 : decode prog_10_method_16_code 43 = .ok (.aload_n 0, 1) := D_42 W_prog_10_method_16_code_32 11 rfl rfl
theorem d_10_16_44 : decode prog_10_method_16_code 44 = .ok (.getfield 120, 3) := D_180 W_prog_10_method_16_code_32 12 rfl rfl rfl
theorem d_10_16_47 : decode prog_10_method_16_code 47 = .ok (.bipush 16, 2) := D_16 W_prog_10_method_16_code_32 15 rfl rfl rfl
theorem d_10_16_49 : decode prog_10_method_16_code 49 = .ok (.irem, 1) := D_112 W_prog_10_method_16_code_32 17 rfl rfl
theorem d_10_16_50 : decode prog_10_method_16_code 50 = .ok (.i2l, 1) := D_133 W_prog_10_method_16_code_32 18 rfl rfl
theorem d_10_16_51 : decode prog_10_method_16_code 51 = .ok (.lastore, 1) := D_80 W_prog_10_method_16_code_32 19 rfl rfl
theorem d_10_16_52 : decode prog_10_method_16_code 52 = .ok (.aload_n 0, 1) := D_42 W_prog_10_method_16_code_32 20 rfl rfl
theorem d_10_16_53 : decode prog_10_method_16_code 53 = .ok (.getfield 17, 3) := D_180 W_prog_10_method_16_code_32 21 rfl rfl rfl
theorem d_10_16_56 : decode prog_10_method_16_code 56 = .ok (.iconst 2, 1) := D_5 W_prog_10_method_16_code_32 24 rfl rfl
theorem d_10_16_57 : decode prog_10_method_16_code 57 = .ok (.aaload, 1) := D_50 W_prog_10_method_16_code_32 25 rfl rfl
theorem d_10_16_58 : decode prog_10_method_16_code 58 = .ok (.aload_n 0, 1) := D_42 W_prog_10_method_16_code_32 26 rfl rfl
theorem d_10_16_59 : decode prog_10_method_16_code 59 = .ok (.getfield 42, 3) := D_180 W_prog_10_method_16_code_32 27 rfl rfl rfl
theorem d_10_16_62 : decode prog_10_method_16_code 62 = .ok (.iload_n 1, 1) := D_27 W_prog_10_method_16_code_32 30 rfl rfl
theorem d_10_16_63 : decode prog_10_method_16_code 63 = .ok (.i2l, 1) := D_133 W_prog_10_method_16_code_32 31 rfl rfl
theorem W_prog_10_method_16_code_64 : chW prog_10_method_16_code 64 [80, 42, 180, 0, 17, 6, 50, 42, 180, 0, 42, 28, 133, 80, 42, 180, 0, 17, 7, 50, 42, 180, 0, 42, 42, 180, 0, 123, 80, 42, 180, 0, 17, 8, 50, 42] := chW_of (by decide +kernel)
theorem d_10_16_64 : decode prog_10_method_16_code 64 = .ok (.lastore, 1) := D_80 W_prog_10_method_16_code_64 0 rfl rfl
theorem d_10_16_65 : decode prog_10_method_16_code 65 = .ok (.aload_n 0, 1) := D_42 W_prog_10_method_16_code_64 1 rfl rfl
theorem d_10_16_66 : decode prog_10_method_16_code 66 = .ok (.getfield 17, 3) := D_180 W_prog_10_method_16_code_64 2 rfl rfl rfl
theorem d_10_16_69 : decode prog_10_method_16_code 69 = .ok (.iconst 3, 1) := D_6 W_prog_10_method_16_code_64 5 rfl rfl
theorem d_10_16_70 : decode prog_10_method_16_code 70 = .ok (.aaload, 1) := D_50 W_prog_10_method_16_code_64 6 rfl rfl
theorem d_10_16_71 : decode prog_10_method_16_code 71 = .ok (.aload_n 0, 1) := D_42 W_prog_10_method_16_code_64 7 rfl rfl
theorem d_10_16_72 : decode prog_10_method_16_code 72 = .ok (.getfield 42, 3) := D_180 W_prog_10_method_16_code_64 8 rfl rfl rfl
theorem d_10_16_75 : decode prog_10_method_16_code 75 = .ok (.iload_n 2, 1) := D_28 W_prog_10_method_16_code_64 11 rfl rfl
theorem d_10_16_76 : decode prog_10_method_16_code 76 = .ok (.i2l, 1) := D_133 W_prog_10_method_16_code_64 12 rfl rfl
theorem d_10_16_77 : decode prog_10_method_16_code 77 = .ok (.lastore, 1) := D_80 W_prog_10_method_16_code_64 13 rfl rfl
theorem d_10_16_78 : decode prog_10_method_16_code 78 = .ok (.aload_n 0, 1) := D_42 W_prog_10_method_16_code_64 14 rfl rfl
theorem d_10_16_79 : decode prog_10_method_16_code 79 = .ok (.getfield 17, 3) := D_180 W_prog_10_method_16_code_64 15 rfl rfl rfl
theorem d_10_16_82 : decode prog_10_method_16_code 82 = .ok (.iconst 4, 1) := D_7 W_prog_10_method_16_code_64 18 rfl rfl
theorem d_10_16_83 : decode prog_10_method_16_code 83 = .ok (.aaload, 1) := D_50 W_prog_10_method_16_code_64 19 rfl rfl
theorem d_10_16_84 : decode prog_10_method_16_code 84 = .ok (.aload_n 0, 1) := D_42 W_prog_10_method_16_code_64 20 rfl rfl
theorem d_10_16_85 : decode prog_10_method_16_code 85 = .ok (.getfield 42, 3) := D_180 W_prog_10_method_16_code_64 21 rfl rfl rfl
theorem d_10_16_88 : decode prog_10_method_16_code 88 = .ok (.aload_n 0, 1) := D_42 W_prog_10_method_16_code_64 24 rfl rfl
theorem d_10_16_89 : decode prog_10_method_16_code 89 = .ok (.getfield 123, 3) := D_180 W_prog_10_method_16_code_64 25 rfl rfl rfl
theorem d_10_16_92 : decode prog_10_method_16_code 92 = .ok (.lastore, 1) := D_80 W_prog_10_method_16_code_64 28 rfl rfl
theorem d_10_16_93 : decode prog_10_method_16_code 93 = .ok (.aload_n 0, 1) := D_42 W_prog_10_method_16_code_64 29 rfl rfl
theorem d_10_16_94 : decode prog_10_method_16_code 94 = .ok (.getfield 17, 3) := D_180 W_prog_10_method_16_code_64 30 rfl rfl rfl
theorem W_prog_10_method_16_code_96 : chW prog_10_method_16_code 96 [17, 8, 50, 42, 180, 0, 42, 20, 0, 134, 80, 42, 89, 180, 0, 42, 4, 96, 181, 0, 42, 177] := chW_of (by decide +kernel)
theorem d_10_16_97 : decode prog_10_method_16_code 97 = .ok (.iconst 5, 1) := D_8 W_prog_10_method_16_code_96 1 rfl rfl
theorem d_10_16_98 : decode prog_10_method_16_code 98 = .ok (.aaload, 1) := D_50 W_prog_10_method_16_code_96 2 rfl rfl
theorem d_10_16_99 : decode prog_10_method_16_code 99 = .ok (.aload_n 0, 1) := D_42 W_prog_10_method_16_code_96 3 rfl rfl
theorem d_10_16_100 : decode prog_10_method_16_code 100 = .ok (.getfield 42, 3) := D_180 W_prog_10_method_16_code_96 4 rfl rfl rfl
theorem d_10_16_103 : decode prog_10_method_16_code 103 = .ok (.ldc2_w 134, 3) := D_20 W_prog_10_method_16_code_96 7 rfl rfl rfl
theorem d_10_16_106 : decode prog_10_method_16_code 106 = .ok (.lastore, 1) := D_80 W_prog_10_method_16_code_96 10 rfl rfl
theorem d_10_16_107 : decode prog_10_method_16_code 107 = .ok (.aload_n 0, 1) := D_42 W_prog_10_method_16_code_96 11 rfl rfl
theorem d_10_16_108 : decode prog_10_method_16_code 108 = .ok (.dup, 1) := D_89 W_prog_10_method_16_code_96 12 rfl rfl
theorem d_10_16_109 : decode prog_10_method_16_code 109 = .ok (.getfield 42, 3) := D_180 W_prog_10_method_16_code_96 13 rfl rfl rfl
theorem d_10_16_112 : decode prog_10_method_16_code 112 = .ok (.iconst 1, 1) := D_4 W_prog_10_method_16_code_96 16 rfl rfl
theorem d_10_16_113 : decode prog_10_method_16_code 113 = .ok (.iadd, 1) := D_96 W_prog_10_method_16_code_96 17 rfl rfl
theorem d_10_16_114 : decode prog_10_method_16_code 114 = .ok (.putfield 42, 3) := D_181 W_prog_10_method_16_code_96 18 rfl rfl rfl
theorem d_10_16_117 : decode prog_10_method_16_code 117 = .ok (.return_, 1) := D_177 W_prog_10_method_16_code_96 21 rfl rfl
theorem d_10_16_10 : decode prog_10_method_16_code 10 = .ok (.aload_n 0, 1) := D_42 W_prog_10_method_16_code_0 10 rfl rfl
theorem d_10_16_11 : decode prog_10_method_16_code 11 = .ok (.iconst 3, 1) := D_6 W_prog_10_method_16_code_0 11 rfl rfl
theorem d_10_16_12 : decode prog_10_method_16_code 12 = .ok (.iload_n 3, 1) := D_29 W_prog_10_method_16_code_0 12 rfl rfl
theorem d_10_16_13 : decode prog_10_method_16_code 13 = .ok (.invokevirtual 83, 3) := D_182 W_prog_10_method_16_code_0 13 rfl rfl rfl
theorem d_10_16_16 : decode prog_10_method_16_code 16 = .ok (.return_, 1) := D_177 W_prog_10_method_16_code_0 16 rfl rfl
theorem W_prog_10_method_17_code_0 : chW prog_10_method_17_code 0 [28, 62, 29, 42, 180, 0, 42, 162, 0, 83, 42, 180, 0, 17, 5, 50, 29, 47, 27, 133, 148, 154, 0, 27, 42, 180, 0, 17, 4, 50, 29, 47, 42, 180, 0, 120] := chW_of (by decide +kernel)
theorem d_10_17_0 : decode prog_10_method_17_code 0 = .ok (.iload_n 2, 1) := D_28 W_prog_10_method_17_code_0 0 rfl rfl
theorem d_10_17_1 : decode prog_10_method_17_code 1 = .ok (.istore_n 3, 1) := D_62 W_prog_10_method_17_code_0 1 rfl rfl
theorem d_10_17_2 : decode prog_10_method_17_code 2 = .ok (.iload_n 3, 1) := D_29 W_prog_10_method_17_code_0 2 rfl rfl
theorem d_10_17_3 : decode prog_10_method_17_code 3 = .ok (.aload_n 0, 1) := D_42 W_prog_10_method_17_code_0 3 rfl rfl
theorem d_10_17_4 : decode prog_10_method_17_code 4 = .ok (.getfield 42, 3) := D_180 W_prog_10_method_17_code_0 4 rfl rfl rfl
theorem d_10_17_7 : decode prog_10_method_17_code 7 = .ok (.if_icmp .ge 83, 3) := D_162 W_prog_10_method_17_code_0 7 rfl rfl rfl
theorem W_prog_10_method_17_code_64 : chW prog_10_method_17_code 64 [20, 0, 134, 148, 154, 0, 16, 42, 180, 0, 17, 8, 50, 29, 42, 180, 0, 123, 80, 177, 132, 3, 1, 167, 255, 171, 177] := chW_of (by decide +kernel)
theorem d_10_17_90 : decode prog_10_method_17_code 90 = .ok (.return_, 1) := D_177 W_prog_10_method_17_code_64 26 rfl rfl
theorem d_10_17_10 : decode prog_10_method_17_code 10 = .ok (.aload_n 0, 1) := D_42 W_prog_10_method_17_code_0 10 rfl rfl
theorem d_10_17_11 : decode prog_10_method_17_code 11 = .ok (.getfield 17, 3) := D_180 W_prog_10_method_17_code_0 11 rfl rfl rfl
theorem d_10_17_14 : decode prog_10_method_17_code 14 = .ok (.iconst 2, 1) := D_5 W_prog_10_method_17_code_0 14 rfl rfl
theorem d_10_17_15 : decode prog_10_method_17_code 15 = .ok (.aaload, 1) := D_50 W_prog_10_method_17_code_0 15 rfl rfl
theorem d_10_17_16 : decode prog_10_method_17_code 16 = .ok (.iload_n 3, 1) := D_29 W_prog_10_method_17_code_0 16 rfl rfl
theorem d_10_17_17 : decode prog_10_method_17_code 17 = .ok (.laload, 1) := D_47 W_prog_10_method_17_code_0 17 rfl rfl
theorem d_10_17_18 : decode prog_10_method_17_code 18 = .ok (.iload_n 1, 1) := D_27 W_prog_10_method_17_code_0 18 rfl rfl
theorem d_10_17_19 : decode prog_10_method_17_code 19 = .ok (.i2l, 1) := D_133 W_prog_10_method_17_code_0 19 rfl rfl
theorem d_10_17_20 : decode prog_10_method_17_code 20 = .ok (.lcmp, 1) := D_148 W_prog_10_method_17_code_0 20 rfl rfl
theorem d_10_17_21 : decode prog_10_method_17_code 21 = .ok (.ifCond .ne 27, 3) := D_154 W_prog_10_method_17_code_0 21 rfl rfl rfl
theorem d_10_17_24 : decode prog_10_method_17_code 24 = .ok (.aload_n 0, 1) := D_42 W_prog_10_method_17_code_0 24 rfl rfl
theorem d_10_17_25 : decode prog_10_method_17_code 25 = .ok (.getfield 17, 3) := D_180 W_prog_10_method_17_code_0 25 rfl rfl rfl
theorem d_10_17_28 : decode prog_10_method_17_code 28 = .ok (.iconst 1, 1) := D_4 W_prog_10_method_17_code_0 28 rfl rfl
theorem d_10_17_29 : decode prog_10_method_17_code 29 = .ok (.aaload, 1) := D_50 W_prog_10_method_17_code_0 29 rfl rfl
theorem d_10_17_30 : decode prog_10_method_17_code 30 = .ok (.iload_n 3, 1) := D_29 W_prog_10_method_17_code_0 30 rfl rfl
theorem d_10_17_31 : decode prog_10_method_17_code 31 = .ok (.laload, 1) := D_47 W_prog_10_method_17_code_0 31 rfl rfl
theorem W_prog_10_method_17_code_32 : chW prog_10_method_17_code 32 [42, 180, 0, 120, 16, 16, 112, 133, 148, 154, 0, 7, 4, 167, 0, 4, 3, 54, 4, 21, 4, 153, 0, 31, 42, 180, 0, 17, 8, 50, 29, 47, 20, 0, 134, 148] := chW_of (by decide +kernel)
theorem d_10_17_32 : decode prog_10_method_17_code 32 = .ok (.aload_n 0, 1) := D_42 W_prog_10_method_17_code_32 0 rfl rfl
theorem d_10_17_33 : decode prog_10_method_17_code 33 = .ok (.getfield 120, 3) := D_180 W_prog_10_method_17_code_32 1 rfl rfl rfl
theorem d_10_17_36 : decode prog_10_method_17_code 36 = .ok (.bipush 16, 2) := D_16 W_prog_10_method_17_code_32 4 rfl rfl rfl
theorem d_10_17_38 : decode prog_10_method_17_code 38 = .ok (.irem, 1) := D_112 W_prog_10_method_17_code_32 6 rfl rfl
theorem d_10_17_39 : decode prog_10_method_17_code 39 = .ok (.i2l, 1) := D_133 W_prog_10_method_17_code_32 7 rfl rfl
theorem d_10_17_40 : decode prog_10_method_17_code 40 = .ok (.lcmp, 1) := D_148 W_prog_10_method_17_code_32 8 rfl rfl
theorem d_10_17_41 : decode prog_10_method_17_code 41 = .ok (.ifCond .ne 7, 3) := D_154 W_prog_10_method_17_code_32 9 rfl rfl rfl
theorem d_10_17_44 : decode prog_10_method_17_code 44 = .ok (.iconst 1, 1) := D_4 W_prog_10_method_17_code_32 12 rfl rfl
theorem d_10_17_45 : decode prog_10_method_17_code 45 = .ok (.goto 4, 3) := D_167 W_prog_10_method_17_code_32 13 rfl rfl rfl
theorem d_10_17_49 : decode prog_10_method_17_code 49 = .ok (.istore 4, 2) := D_54 W_prog_10_method_17_code_32 17 rfl rfl
theorem d_10_17_51 : decode prog_10_method_17_code 51 = .ok (.iload 4, 2) := D_21 W_prog_10_method_17_code_32 19 rfl rfl
theorem d_10_17_53 : decode prog_10_method_17_code 53 = .ok (.ifCond .eq 31, 3) := D_153 W_prog_10_method_17_code_32 21 rfl rfl rfl
theorem d_10_17_56 : decode prog_10_method_17_code 56 = .ok (.aload_n 0, 1) := D_42 W_prog_10_method_17_code_32 24 rfl rfl
theorem d_10_17_57 : decode prog_10_method_17_code 57 = .ok (.getfield 17, 3) := D_180 W_prog_10_method_17_code_32 25 rfl rfl rfl
theorem d_10_17_60 : decode prog_10_method_17_code 60 = .ok (.iconst 5, 1) := D_8 W_prog_10_method_17_code_32 28 rfl rfl
theorem d_10_17_61 : decode prog_10_method_17_code 61 = .ok (.aaload, 1) := D_50 W_prog_10_method_17_code_32 29 rfl rfl
theorem d_10_17_62 : decode prog_10_method_17_code 62 = .ok (.iload_n 3, 1) := D_29 W_prog_10_method_17_code_32 30 rfl rfl
theorem d_10_17_63 : decode prog_10_method_17_code 63 = .ok (.laload, 1) := D_47 W_prog_10_method_17_code_32 31 rfl rfl
theorem d_10_17_64 : decode prog_10_method_17_code 64 = .ok (.ldc2_w 134, 3) := D_20 W_prog_10_method_17_code_64 0 rfl rfl rfl
theorem d_10_17_67 : decode prog_10_method_17_code 67 = .ok (.lcmp, 1) := D_148 W_prog_10_method_17_code_64 3 rfl rfl
theorem d_10_17_68 : decode prog_10_method_17_code 68 = .ok (.ifCond .ne 16, 3) := D_154 W_prog_10_method_17_code_64 4 rfl rfl rfl
theorem d_10_17_71 : decode prog_10_method_17_code 71 = .ok (.aload_n 0, 1) := D_42 W_prog_10_method_17_code_64 7 rfl rfl
theorem d_10_17_72 : decode prog_10_method_17_code 72 = .ok (.getfield 17, 3) := D_180 W_prog_10_method_17_code_64 8 rfl rfl rfl
theorem d_10_17_75 : decode prog_10_method_17_code 75 = .ok (.iconst 5, 1) := D_8 W_prog_10_method_17_code_64 11 rfl rfl
theorem d_10_17_76 : decode prog_10_method_17_code 76 = .ok (.aaload, 1) := D_50 W_prog_10_method_17_code_64 12 rfl rfl
theorem d_10_17_77 : decode prog_10_method_17_code 77 = .ok (.iload_n 3, 1) := D_29 W_prog_10_method_17_code_64 13 rfl rfl
theorem d_10_17_78 : decode prog_10_method_17_code 78 = .ok (.aload_n 0, 1) := D_42 W_prog_10_method_17_code_64 14 rfl rfl
theorem d_10_17_79 : decode prog_10_method_17_code 79 = .ok (.getfield 123, 3) := D_180 W_prog_10_method_17_code_64 15 rfl rfl rfl
theorem d_10_17_82 : decode prog_10_method_17_code 82 = .ok (.lastore, 1) := D_80 W_prog_10_method_17_code_64 18 rfl rfl
theorem d_10_17_83 : decode prog_10_method_17_code 83 = .ok (.return_, 1) := D_177 W_prog_10_method_17_code_64 19 rfl rfl
theorem d_10_17_84 : decode prog_10_method_17_code 84 = .ok (.iinc 3 1, 3) := D_132 W_prog_10_method_17_code_64 20 rfl rfl rfl
theorem d_10_17_87 : decode prog_10_method_17_code 87 = .ok (.goto (-85), 3) := D_167 W_prog_10_method_17_code_64 23 rfl rfl rfl
theorem d_10_17_48 : decode prog_10_method_17_code 48 = .ok (.iconst 0, 1) := D_3 W_prog_10_method_17_code_32 16 rfl rfl
theorem W_prog_1_method_25_code_0 : chW prog_1_method_25_code 0 [42, 180, 1, 26, 198, 0, 13, 27, 155, 0, 9, 27, 16, 7, 164, 0, 6, 18, 218, 172, 27, 16, 7, 160, 0, 13, 42, 180, 1, 26, 180, 1, 29, 167, 0, 12] := chW_of (by decide +kernel)
theorem d_1_25_0 : decode prog_1_method_25_code 0 = .ok (.aload_n 0, 1) := D_42 W_prog_1_method_25_code_0 0 rfl rfl
theorem d_1_25_1 : decode prog_1_method_25_code 1 = .ok (.getfield 282, 3) := D_180 W_prog_1_method_25_code_0 1 rfl rfl rfl
theorem d_1_25_4 : decode prog_1_method_25_code 4 = .ok (.ifnull 13, 3) := D_198 W_prog_1_method_25_code_0 4 rfl rfl rfl
theorem d_1_25_7 : decode prog_1_method_25_code 7 = .ok (.iload_n 1, 1) := D_27 W_prog_1_method_25_code_0 7 rfl rfl
theorem d_1_25_8 : decode prog_1_method_25_code 8 = .ok (.ifCond .lt 9, 3) := D_155 W_prog_1_method_25_code_0 8 rfl rfl rfl
theorem d_1_25_11 : decode prog_1_method_25_code 11 = .ok (.iload_n 1, 1) := D_27 W_prog_1_method_25_code_0 11 rfl rfl
theorem d_1_25_12 : decode prog_1_method_25_code 12 = .ok (.bipush 7, 2) := D_16 W_prog_1_method_25_code_0 12 rfl rfl rfl
theorem d_1_25_14 : decode prog_1_method_25_code 14 = .ok (.if_icmp .le 6, 3) := D_164 W_prog_1_method_25_code_0 14 rfl rfl rfl
theorem d_1_25_20 : decode prog_1_method_25_code 20 = .ok (.iload_n 1, 1) := D_27 W_prog_1_method_25_code_0 20 rfl rfl
theorem d_1_25_21 : decode prog_1_method_25_code 21 = .ok (.bipush 7, 2) := D_16 W_prog_1_method_25_code_0 21 rfl rfl rfl
theorem d_1_25_23 : decode prog_1_method_25_code 23 = .ok (.if_icmp .ne 13, 3) := D_160 W_prog_1_method_25_code_0 23 rfl rfl rfl
theorem W_prog_1_method_25_code_32 : chW prog_1_method_25_code 32 [29, 167, 0, 12, 42, 180, 1, 26, 180, 1, 30, 27, 46, 172] := chW_of (by decide +kernel)
theorem d_1_25_36 : decode prog_1_method_25_code 36 = .ok (.aload_n 0, 1) := D_42 W_prog_1_method_25_code_32 4 rfl rfl
theorem d_1_25_37 : decode prog_1_method_25_code 37 = .ok (.getfield 282, 3) := D_180 W_prog_1_method_25_code_32 5 rfl rfl rfl
theorem d_1_25_40 : decode prog_1_method_25_code 40 = .ok (.getfield 286, 3) := D_180 W_prog_1_method_25_code_32 8 rfl rfl rfl
theorem d_1_25_43 : decode prog_1_method_25_code 43 = .ok (.iload_n 1, 1) := D_27 W_prog_1_method_25_code_32 11 rfl rfl
theorem d_1_25_44 : decode prog_1_method_25_code 44 = .ok (.iaload, 1) := D_46 W_prog_1_method_25_code_32 12 rfl rfl
theorem d_1_25_26 : decode prog_1_method_25_code 26 = .ok (.aload_n 0, 1) := D_42 W_prog_1_method_25_code_0 26 rfl rfl
theorem d_1_25_27 : decode prog_1_method_25_code 27 = .ok (.getfield 282, 3) := D_180 W_prog_1_method_25_code_0 27 rfl rfl rfl
theorem d_1_25_30 : decode prog_1_method_25_code 30 = .ok (.getfield 285, 3) := D_180 W_prog_1_method_25_code_0 30 rfl rfl rfl
theorem d_1_25_33 : decode prog_1_method_25_code 33 = .ok (.goto 12, 3) := D_167 W_prog_1_method_25_code_32 1 rfl rfl rfl
theorem d_1_25_17 : decode prog_1_method_25_code 17 = .ok (.ldc 218, 2) := D_18 W_prog_1_method_25_code_0 17 rfl rfl
theorem d_1_25_19 : decode prog_1_method_25_code 19 = .ok (.ireturn, 1) := D_172 W_prog_1_method_25_code_0 19 rfl rfl
theorem d_1_25_45 : decode prog_1_method_25_code 45 = .ok (.ireturn, 1) := D_172 W_prog_1_method_25_code_32 13 rfl rfl
theorem W_prog_1_method_26_code_0 : chW prog_1_method_26_code 0 [42, 180, 1, 26, 198, 0, 28, 27, 155, 0, 24, 27, 42, 180, 1, 26, 180, 1, 29, 162, 0, 13, 28, 155, 0, 9, 28, 16, 6, 161, 0, 7, 20, 0, 191, 173] := chW_of (by decide +kernel)
theorem d_1_26_0 : decode prog_1_method_26_code 0 = .ok (.aload_n 0, 1) := D_42 W_prog_1_method_26_code_0 0 rfl rfl
theorem d_1_26_1 : decode prog_1_method_26_code 1 = .ok (.getfield 282, 3) := D_180 W_prog_1_method_26_code_0 1 rfl rfl rfl
theorem d_1_26_4 : decode prog_1_method_26_code 4 = .ok (.ifnull 28, 3) := D_198 W_prog_1_method_26_code_0 4 rfl rfl rfl
theorem d_1_26_7 : decode prog_1_method_26_code 7 = .ok (.iload_n 1, 1) := D_27 W_prog_1_method_26_code_0 7 rfl rfl
theorem d_1_26_8 : decode prog_1_method_26_code 8 = .ok (.ifCond .lt 24, 3) := D_155 W_prog_1_method_26_code_0 8 rfl rfl rfl
theorem d_1_26_11 : decode prog_1_method_26_code 11 = .ok (.iload_n 1, 1) := D_27 W_prog_1_method_26_code_0 11 rfl rfl
theorem d_1_26_12 : decode prog_1_method_26_code 12 = .ok (.aload_n 0, 1) := D_42 W_prog_1_method_26_code_0 12 rfl rfl
theorem d_1_26_13 : decode prog_1_method_26_code 13 = .ok (.getfield 282, 3) := D_180 W_prog_1_method_26_code_0 13 rfl rfl rfl
theorem d_1_26_16 : decode prog_1_method_26_code 16 = .ok (.getfield 285, 3) := D_180 W_prog_1_method_26_code_0 16 rfl rfl rfl
theorem d_1_26_19 : decode prog_1_method_26_code 19 = .ok (.if_icmp .ge 13, 3) := D_162 W_prog_1_method_26_code_0 19 rfl rfl rfl
theorem d_1_26_22 : decode prog_1_method_26_code 22 = .ok (.iload_n 2, 1) := D_28 W_prog_1_method_26_code_0 22 rfl rfl
theorem d_1_26_23 : decode prog_1_method_26_code 23 = .ok (.ifCond .lt 9, 3) := D_155 W_prog_1_method_26_code_0 23 rfl rfl rfl
theorem d_1_26_26 : decode prog_1_method_26_code 26 = .ok (.iload_n 2, 1) := D_28 W_prog_1_method_26_code_0 26 rfl rfl
theorem d_1_26_27 : decode prog_1_method_26_code 27 = .ok (.bipush 6, 2) := D_16 W_prog_1_method_26_code_0 27 rfl rfl rfl
theorem d_1_26_29 : decode prog_1_method_26_code 29 = .ok (.if_icmp .lt 7, 3) := D_161 W_prog_1_method_26_code_0 29 rfl rfl rfl
theorem W_prog_1_method_26_code_32 : chW prog_1_method_26_code 32 [20, 0, 191, 173, 42, 180, 1, 26, 180, 1, 33, 28, 50, 27, 47, 173] := chW_of (by decide +kernel)
theorem d_1_26_36 : decode prog_1_method_26_code 36 = .ok (.aload_n 0, 1) := D_42 W_prog_1_method_26_code_32 4 rfl rfl
theorem d_1_26_37 : decode prog_1_method_26_code 37 = .ok (.getfield 282, 3) := D_180 W_prog_1_method_26_code_32 5 rfl rfl rfl
theorem d_1_26_40 : decode prog_1_method_26_code 40 = .ok (.getfield 289, 3) := D_180 W_prog_1_method_26_code_32 8 rfl rfl rfl
theorem d_1_26_43 : decode prog_1_method_26_code 43 = .ok (.iload_n 2, 1) := D_28 W_prog_1_method_26_code_32 11 rfl rfl
theorem d_1_26_44 : decode prog_1_method_26_code 44 = .ok (.aaload, 1) := D_50 W_prog_1_method_26_code_32 12 rfl rfl
theorem d_1_26_45 : decode prog_1_method_26_code 45 = .ok (.iload_n 1, 1) := D_27 W_prog_1_method_26_code_32 13 rfl rfl
theorem d_1_26_46 : decode prog_1_method_26_code 46 = .ok (.laload, 1) := D_47 W_prog_1_method_26_code_32 14 rfl rfl
theorem d_1_26_47 : decode prog_1_method_26_code 47 = .ok (.lreturn, 1) := D_173 W_prog_1_method_26_code_32 15 rfl rfl
theorem d_1_26_32 : decode prog_1_method_26_code 32 = .ok (.ldc2_w 191, 3) := D_20 W_prog_1_method_26_code_32 0 rfl rfl rfl
theorem d_1_26_35 : decode prog_1_method_26_code 35 = .ok (.lreturn, 1) := D_173 W_prog_1_method_26_code_32 3 rfl rfl
theorem W_prog_9_method_3_code_0 : chW prog_9_method_3_code 0 [42, 180, 0, 22, 180, 0, 81, 3, 50, 77, 27, 62, 29, 42, 180, 0, 22, 180, 0, 63, 162, 0, 19, 44, 29, 47, 44, 27, 47, 148, 154, 0, 9, 132, 3, 1] := chW_of (by decide +kernel)
theorem d_9_3_0 : decode prog_9_method_3_code 0 = .ok (.aload_n 0, 1) := D_42 W_prog_9_method_3_code_0 0 rfl rfl
theorem d_9_3_1 : decode prog_9_method_3_code 1 = .ok (.getfield 22, 3) := D_180 W_prog_9_method_3_code_0 1 rfl rfl rfl
theorem d_9_3_4 : decode prog_9_method_3_code 4 = .ok (.getfield 81, 3) := D_180 W_prog_9_method_3_code_0 4 rfl rfl rfl
theorem d_9_3_7 : decode prog_9_method_3_code 7 = .ok (.iconst 0, 1) := D_3 W_prog_9_method_3_code_0 7 rfl rfl
theorem d_9_3_8 : decode prog_9_method_3_code 8 = .ok (.aaload, 1) := D_50 W_prog_9_method_3_code_0 8 rfl rfl
theorem d_9_3_9 : decode prog_9_method_3_code 9 = .ok (.astore_n 2, 1) := D_77 W_prog_9_method_3_code_0 9 rfl rfl
theorem d_9_3_10 : decode prog_9_method_3_code 10 = .ok (.iload_n 1, 1) := D_27 W_prog_9_method_3_code_0 10 rfl rfl
theorem d_9_3_11 : decode prog_9_method_3_code 11 = .ok (.istore_n 3, 1) := D_62 W_prog_9_method_3_code_0 11 rfl rfl
theorem d_9_3_12 : decode prog_9_method_3_code 12 = .ok (.iload_n 3, 1) := D_29 W_prog_9_method_3_code_0 12 rfl rfl
theorem d_9_3_13 : decode prog_9_method_3_code 13 = .ok (.aload_n 0, 1) := D_42 W_prog_9_method_3_code_0 13 rfl rfl
theorem d_9_3_14 : decode prog_9_method_3_code 14 = .ok (.getfield 22, 3) := D_180 W_prog_9_method_3_code_0 14 rfl rfl rfl
theorem d_9_3_17 : decode prog_9_method_3_code 17 = .ok (.getfield 63, 3) := D_180 W_prog_9_method_3_code_0 17 rfl rfl rfl
theorem d_9_3_20 : decode prog_9_method_3_code 20 = .ok (.if_icmp .ge 19, 3) := D_162 W_prog_9_method_3_code_0 20 rfl rfl rfl
theorem d_9_3_23 : decode prog_9_method_3_code 23 = .ok (.aload_n 2, 1) := D_44 W_prog_9_method_3_code_0 23 rfl rfl
theorem d_9_3_24 : decode prog_9_method_3_code 24 = .ok (.iload_n 3, 1) := D_29 W_prog_9_method_3_code_0 24 rfl rfl
theorem d_9_3_25 : decode prog_9_method_3_code 25 = .ok (.laload, 1) := D_47 W_prog_9_method_3_code_0 25 rfl rfl
theorem d_9_3_26 : decode prog_9_method_3_code 26 = .ok (.aload_n 2, 1) := D_44 W_prog_9_method_3_code_0 26 rfl rfl
theorem d_9_3_27 : decode prog_9_method_3_code 27 = .ok (.iload_n 1, 1) := D_27 W_prog_9_method_3_code_0 27 rfl rfl
theorem d_9_3_28 : decode prog_9_method_3_code 28 = .ok (.laload, 1) := D_47 W_prog_9_method_3_code_0 28 rfl rfl
theorem d_9_3_29 : decode prog_9_method_3_code 29 = .ok (.lcmp, 1) := D_148 W_prog_9_method_3_code_0 29 rfl rfl
theorem d_9_3_30 : decode prog_9_method_3_code 30 = .ok (.ifCond .ne 9, 3) := D_154 W_prog_9_method_3_code_0 30 rfl rfl rfl
theorem W_prog_9_method_3_code_32 : chW prog_9_method_3_code 32 [9, 132, 3, 1, 167, 255, 232, 29, 172] := chW_of (by decide +kernel)
theorem d_9_3_33 : decode prog_9_method_3_code 33 = .ok (.iinc 3 1, 3) := D_132 W_prog_9_method_3_code_32 1 rfl rfl rfl
theorem d_9_3_36 : decode prog_9_method_3_code 36 = .ok (.goto (-24), 3) := D_167 W_prog_9_method_3_code_32 4 rfl rfl rfl
theorem d_9_3_39 : decode prog_9_method_3_code 39 = .ok (.iload_n 3, 1) := D_29 W_prog_9_method_3_code_32 7 rfl rfl
theorem d_9_3_40 : decode prog_9_method_3_code 40 = .ok (.ireturn, 1) := D_172 W_prog_9_method_3_code_32 8 rfl rfl
theorem W_prog_9_method_4_code_0 : chW prog_9_method_4_code 0 [42, 180, 0, 22, 180, 0, 40, 4, 46, 4, 184, 0, 30, 133, 66, 20, 0, 85, 31, 105, 42, 180, 0, 36, 133, 105, 20, 0, 87, 33, 105, 97, 20, 0, 89, 33] := chW_of (by decide +kernel)
theorem d_9_4_0 : decode prog_9_method_4_code 0 = .ok (.aload_n 0, 1) := D_42 W_prog_9_method_4_code_0 0 rfl rfl
theorem d_9_4_1 : decode prog_9_method_4_code 1 = .ok (.getfield 22, 3) := D_180 W_prog_9_method_4_code_0 1 rfl rfl rfl
theorem d_9_4_4 : decode prog_9_method_4_code 4 = .ok (.getfield 40, 3) := D_180 W_prog_9_method_4_code_0 4 rfl rfl rfl
theorem d_9_4_7 : decode prog_9_method_4_code 7 = .ok (.iconst 1, 1) := D_4 W_prog_9_method_4_code_0 7 rfl rfl
theorem d_9_4_8 : decode prog_9_method_4_code 8 = .ok (.iaload, 1) := D_46 W_prog_9_method_4_code_0 8 rfl rfl
theorem d_9_4_9 : decode prog_9_method_4_code 9 = .ok (.iconst 1, 1) := D_4 W_prog_9_method_4_code_0 9 rfl rfl
theorem d_9_4_10 : decode prog_9_method_4_code 10 = .ok (.invokestatic 30, 3) := D_184 W_prog_9_method_4_code_0 10 rfl rfl rfl
theorem d_9_4_13 : decode prog_9_method_4_code 13 = .ok (.i2l, 1) := D_133 W_prog_9_method_4_code_0 13 rfl rfl
theorem d_9_4_14 : decode prog_9_method_4_code 14 = .ok (.lstore_n 3, 1) := D_66 W_prog_9_method_4_code_0 14 rfl rfl
theorem d_9_4_15 : decode prog_9_method_4_code 15 = .ok (.ldc2_w 85, 3) := D_20 W_prog_9_method_4_code_0 15 rfl rfl rfl
theorem d_9_4_18 : decode prog_9_method_4_code 18 = .ok (.lload_n 1, 1) := D_31 W_prog_9_method_4_code_0 18 rfl rfl
